section
-- ===== PART A: goes FIRST, ahead of the names: the tables' words, and 'selects' of the private methods out of them =====
/-- a private method of a class that the tables say can be made, by its rows of tables_1 -/
def lw_okq (q : MethodName × Nat) : Prop := (q.1.cls ≠ "java/lang/invoke/MethodHandle" ∧ q.1.cls ≠ "java/lang/invoke/VarHandle") ∧ Cond.instantiable q.1.cls q.2 ∈ tables_1 ∧ Cond.privateMethod q.1 ∈ tables_1 ∧ Cond.instanceMethod q.1 ∈ tables_1
theorem lw_p0 : lw_okq (⟨"WhirlShafts", "fenceBy", "(LWhirlShafts$Line;II)I"⟩, 12) := ⟨⟨by decide +kernel, by decide +kernel⟩, List.mem_of_getElem? (i := 17) (by decide +kernel), List.mem_of_getElem? (i := 500) (by decide +kernel), List.mem_of_getElem? (i := 501) (by decide +kernel)⟩
theorem lw_p1 : lw_okq (⟨"WhirlShafts", "leastMassWithin", "(IIII)I"⟩, 12) := ⟨⟨by decide +kernel, by decide +kernel⟩, List.mem_of_getElem? (i := 17) (by decide +kernel), List.mem_of_getElem? (i := 538) (by decide +kernel), List.mem_of_getElem? (i := 539) (by decide +kernel)⟩
theorem lw_p2 : lw_okq (⟨"WhirlShafts", "fenceByMass", "(IIII)I"⟩, 12) := ⟨⟨by decide +kernel, by decide +kernel⟩, List.mem_of_getElem? (i := 17) (by decide +kernel), List.mem_of_getElem? (i := 542) (by decide +kernel), List.mem_of_getElem? (i := 543) (by decide +kernel)⟩
theorem lw_p3 : lw_okq (⟨"WhirlShafts", "kindsThatFit", "(LWhirlShafts$Row;III)I"⟩, 12) := ⟨⟨by decide +kernel, by decide +kernel⟩, List.mem_of_getElem? (i := 17) (by decide +kernel), List.mem_of_getElem? (i := 577) (by decide +kernel), List.mem_of_getElem? (i := 578) (by decide +kernel)⟩
theorem lw_p4 : lw_okq (⟨"WhirlShafts", "trialFits", "(LWhirlShafts$Row;II)Z"⟩, 12) := ⟨⟨by decide +kernel, by decide +kernel⟩, List.mem_of_getElem? (i := 17) (by decide +kernel), List.mem_of_getElem? (i := 581) (by decide +kernel), List.mem_of_getElem? (i := 582) (by decide +kernel)⟩
theorem lw_p5 : lw_okq (⟨"WhirlShafts", "massesThatFit", "(LWhirlShafts$Row;IIIZ)I"⟩, 12) := ⟨⟨by decide +kernel, by decide +kernel⟩, List.mem_of_getElem? (i := 17) (by decide +kernel), List.mem_of_getElem? (i := 590) (by decide +kernel), List.mem_of_getElem? (i := 591) (by decide +kernel)⟩
theorem lw_p6 : lw_okq (⟨"WhirlShafts", "doActs", "()I"⟩, 12) := ⟨⟨by decide +kernel, by decide +kernel⟩, List.mem_of_getElem? (i := 17) (by decide +kernel), List.mem_of_getElem? (i := 662) (by decide +kernel), List.mem_of_getElem? (i := 663) (by decide +kernel)⟩
theorem lw_p7 : lw_okq (⟨"WhirlShafts", "doAct", "(I)I"⟩, 12) := ⟨⟨by decide +kernel, by decide +kernel⟩, List.mem_of_getElem? (i := 17) (by decide +kernel), List.mem_of_getElem? (i := 674) (by decide +kernel), List.mem_of_getElem? (i := 675) (by decide +kernel)⟩
theorem lw_p8 : lw_okq (⟨"WhirlShafts", "rowsThere", "()I"⟩, 12) := ⟨⟨by decide +kernel, by decide +kernel⟩, List.mem_of_getElem? (i := 17) (by decide +kernel), List.mem_of_getElem? (i := 841) (by decide +kernel), List.mem_of_getElem? (i := 842) (by decide +kernel)⟩
theorem lw_p9 : lw_okq (⟨"WhirlShaftsModel", "forgetsChanges", "()V"⟩, 47) := ⟨⟨by decide +kernel, by decide +kernel⟩, List.mem_of_getElem? (i := 845) (by decide +kernel), List.mem_of_getElem? (i := 1000) (by decide +kernel), List.mem_of_getElem? (i := 1001) (by decide +kernel)⟩
theorem lw_p10 : lw_okq (⟨"WhirlShaftsModel", "refuses", "(III)I"⟩, 47) := ⟨⟨by decide +kernel, by decide +kernel⟩, List.mem_of_getElem? (i := 845) (by decide +kernel), List.mem_of_getElem? (i := 1016) (by decide +kernel), List.mem_of_getElem? (i := 1017) (by decide +kernel)⟩
theorem lw_p11 : lw_okq (⟨"WhirlShaftsModel", "isOne", "(II)Z"⟩, 47) := ⟨⟨by decide +kernel, by decide +kernel⟩, List.mem_of_getElem? (i := 845) (by decide +kernel), List.mem_of_getElem? (i := 1020) (by decide +kernel), List.mem_of_getElem? (i := 1021) (by decide +kernel)⟩
theorem lw_p12 : lw_okq (⟨"WhirlShaftsModel", "isDisc", "(I)Z"⟩, 47) := ⟨⟨by decide +kernel, by decide +kernel⟩, List.mem_of_getElem? (i := 845) (by decide +kernel), List.mem_of_getElem? (i := 1024) (by decide +kernel), List.mem_of_getElem? (i := 1025) (by decide +kernel)⟩
theorem lw_p13 : lw_okq (⟨"WhirlShaftsModel", "isShaft", "(I)Z"⟩, 47) := ⟨⟨by decide +kernel, by decide +kernel⟩, List.mem_of_getElem? (i := 845) (by decide +kernel), List.mem_of_getElem? (i := 1028) (by decide +kernel), List.mem_of_getElem? (i := 1029) (by decide +kernel)⟩
theorem lw_p14 : lw_okq (⟨"WhirlShaftsModel", "turnsInAll", "()I"⟩, 47) := ⟨⟨by decide +kernel, by decide +kernel⟩, List.mem_of_getElem? (i := 845) (by decide +kernel), List.mem_of_getElem? (i := 1038) (by decide +kernel), List.mem_of_getElem? (i := 1039) (by decide +kernel)⟩
theorem lw_p15 : lw_okq (⟨"WhirlShaftsModel", "is", "(II)I"⟩, 47) := ⟨⟨by decide +kernel, by decide +kernel⟩, List.mem_of_getElem? (i := 845) (by decide +kernel), List.mem_of_getElem? (i := 1042) (by decide +kernel), List.mem_of_getElem? (i := 1043) (by decide +kernel)⟩
def lw_privs_1 : List (MethodName × Nat) := [(⟨"WhirlShafts", "fenceBy", "(LWhirlShafts$Line;II)I"⟩, 12), (⟨"WhirlShafts", "leastMassWithin", "(IIII)I"⟩, 12), (⟨"WhirlShafts", "fenceByMass", "(IIII)I"⟩, 12), (⟨"WhirlShafts", "kindsThatFit", "(LWhirlShafts$Row;III)I"⟩, 12), (⟨"WhirlShafts", "trialFits", "(LWhirlShafts$Row;II)Z"⟩, 12), (⟨"WhirlShafts", "massesThatFit", "(LWhirlShafts$Row;IIIZ)I"⟩, 12), (⟨"WhirlShafts", "doActs", "()I"⟩, 12), (⟨"WhirlShafts", "doAct", "(I)I"⟩, 12), (⟨"WhirlShafts", "rowsThere", "()I"⟩, 12), (⟨"WhirlShaftsModel", "forgetsChanges", "()V"⟩, 47), (⟨"WhirlShaftsModel", "refuses", "(III)I"⟩, 47), (⟨"WhirlShaftsModel", "isOne", "(II)Z"⟩, 47), (⟨"WhirlShaftsModel", "isDisc", "(I)Z"⟩, 47), (⟨"WhirlShaftsModel", "isShaft", "(I)Z"⟩, 47), (⟨"WhirlShaftsModel", "turnsInAll", "()I"⟩, 47), (⟨"WhirlShaftsModel", "is", "(II)I"⟩, 47)]
theorem lw_r1 : ∀ q ∈ lw_privs_1, lw_okq q := List.forall_mem_cons.mpr ⟨lw_p0, List.forall_mem_cons.mpr ⟨lw_p1, List.forall_mem_cons.mpr ⟨lw_p2, List.forall_mem_cons.mpr ⟨lw_p3, List.forall_mem_cons.mpr ⟨lw_p4, List.forall_mem_cons.mpr ⟨lw_p5, List.forall_mem_cons.mpr ⟨lw_p6, List.forall_mem_cons.mpr ⟨lw_p7, List.forall_mem_cons.mpr ⟨lw_p8, List.forall_mem_cons.mpr ⟨lw_p9, List.forall_mem_cons.mpr ⟨lw_p10, List.forall_mem_cons.mpr ⟨lw_p11, List.forall_mem_cons.mpr ⟨lw_p12, List.forall_mem_cons.mpr ⟨lw_p13, List.forall_mem_cons.mpr ⟨lw_p14, List.forall_mem_cons.mpr ⟨lw_p15, fun _ h => absurd h List.not_mem_nil⟩⟩⟩⟩⟩⟩⟩⟩⟩⟩⟩⟩⟩⟩⟩⟩
theorem lw_p16 : lw_okq (⟨"WhirlShaftsModel", "notes", "(IIII)V"⟩, 47) := ⟨⟨by decide +kernel, by decide +kernel⟩, List.mem_of_getElem? (i := 845) (by decide +kernel), List.mem_of_getElem? (i := 1046) (by decide +kernel), List.mem_of_getElem? (i := 1047) (by decide +kernel)⟩
theorem lw_p17 : lw_okq (⟨"WhirlShaftsModel", "becomes", "(III)V"⟩, 47) := ⟨⟨by decide +kernel, by decide +kernel⟩, List.mem_of_getElem? (i := 845) (by decide +kernel), List.mem_of_getElem? (i := 1050) (by decide +kernel), List.mem_of_getElem? (i := 1051) (by decide +kernel)⟩
theorem lw_p18 : lw_okq (⟨"WhirlShaftsModel", "reduces", "()V"⟩, 47) := ⟨⟨by decide +kernel, by decide +kernel⟩, List.mem_of_getElem? (i := 845) (by decide +kernel), List.mem_of_getElem? (i := 1066) (by decide +kernel), List.mem_of_getElem? (i := 1067) (by decide +kernel)⟩
theorem lw_p19 : lw_okq (⟨"WhirlShaftsModel", "weighs", "(I)I"⟩, 47) := ⟨⟨by decide +kernel, by decide +kernel⟩, List.mem_of_getElem? (i := 845) (by decide +kernel), List.mem_of_getElem? (i := 1070) (by decide +kernel), List.mem_of_getElem? (i := 1071) (by decide +kernel)⟩
theorem lw_p20 : lw_okq (⟨"WhirlShaftsModel", "belowAll", "(II)I"⟩, 47) := ⟨⟨by decide +kernel, by decide +kernel⟩, List.mem_of_getElem? (i := 845) (by decide +kernel), List.mem_of_getElem? (i := 1084) (by decide +kernel), List.mem_of_getElem? (i := 1085) (by decide +kernel)⟩
theorem lw_p21 : lw_okq (⟨"WhirlShaftsModel", "transfer", "(IIII)I"⟩, 47) := ⟨⟨by decide +kernel, by decide +kernel⟩, List.mem_of_getElem? (i := 845) (by decide +kernel), List.mem_of_getElem? (i := 1088) (by decide +kernel), List.mem_of_getElem? (i := 1089) (by decide +kernel)⟩
theorem lw_p22 : lw_okq (⟨"WhirlShaftsModel", "signAt", "(I)I"⟩, 47) := ⟨⟨by decide +kernel, by decide +kernel⟩, List.mem_of_getElem? (i := 845) (by decide +kernel), List.mem_of_getElem? (i := 1093) (by decide +kernel), List.mem_of_getElem? (i := 1094) (by decide +kernel)⟩
theorem lw_p23 : lw_okq (⟨"WhirlShaftsModel", "topNow", "()I"⟩, 47) := ⟨⟨by decide +kernel, by decide +kernel⟩, List.mem_of_getElem? (i := 845) (by decide +kernel), List.mem_of_getElem? (i := 1121) (by decide +kernel), List.mem_of_getElem? (i := 1122) (by decide +kernel)⟩
theorem lw_p24 : lw_okq (⟨"WhirlShaftsModel", "isFenced", "(II)Z"⟩, 47) := ⟨⟨by decide +kernel, by decide +kernel⟩, List.mem_of_getElem? (i := 845) (by decide +kernel), List.mem_of_getElem? (i := 1129) (by decide +kernel), List.mem_of_getElem? (i := 1130) (by decide +kernel)⟩
theorem lw_p25 : lw_okq (⟨"WhirlShaftsModel", "fenceOf", "(II)I"⟩, 47) := ⟨⟨by decide +kernel, by decide +kernel⟩, List.mem_of_getElem? (i := 845) (by decide +kernel), List.mem_of_getElem? (i := 1133) (by decide +kernel), List.mem_of_getElem? (i := 1134) (by decide +kernel)⟩
theorem lw_p26 : lw_okq (⟨"WhirlShaftsModel", "bandOf", "(III)I"⟩, 47) := ⟨⟨by decide +kernel, by decide +kernel⟩, List.mem_of_getElem? (i := 845) (by decide +kernel), List.mem_of_getElem? (i := 1148) (by decide +kernel), List.mem_of_getElem? (i := 1149) (by decide +kernel)⟩
theorem lw_p27 : lw_okq (⟨"WhirlShaftsModel", "swaps", "(I)V"⟩, 47) := ⟨⟨by decide +kernel, by decide +kernel⟩, List.mem_of_getElem? (i := 845) (by decide +kernel), List.mem_of_getElem? (i := 1172) (by decide +kernel), List.mem_of_getElem? (i := 1173) (by decide +kernel)⟩
theorem lw_p28 : lw_okq (⟨"WhirlShaftsModel", "fittingKinds", "(IIII)I"⟩, 47) := ⟨⟨by decide +kernel, by decide +kernel⟩, List.mem_of_getElem? (i := 845) (by decide +kernel), List.mem_of_getElem? (i := 1211) (by decide +kernel), List.mem_of_getElem? (i := 1212) (by decide +kernel)⟩
theorem lw_p29 : lw_okq (⟨"WhirlShaftsModel", "isSo", "(III)Z"⟩, 47) := ⟨⟨by decide +kernel, by decide +kernel⟩, List.mem_of_getElem? (i := 845) (by decide +kernel), List.mem_of_getElem? (i := 1215) (by decide +kernel), List.mem_of_getElem? (i := 1216) (by decide +kernel)⟩
theorem lw_p30 : lw_okq (⟨"WhirlShaftsModel", "fittingMasses", "(IIIII)I"⟩, 47) := ⟨⟨by decide +kernel, by decide +kernel⟩, List.mem_of_getElem? (i := 845) (by decide +kernel), List.mem_of_getElem? (i := 1219) (by decide +kernel), List.mem_of_getElem? (i := 1220) (by decide +kernel)⟩
theorem lw_p31 : lw_okq (⟨"WhirlShaftsModel", "passesAll", "(IZ)V"⟩, 47) := ⟨⟨by decide +kernel, by decide +kernel⟩, List.mem_of_getElem? (i := 845) (by decide +kernel), List.mem_of_getElem? (i := 1235) (by decide +kernel), List.mem_of_getElem? (i := 1236) (by decide +kernel)⟩
def lw_privs_2 : List (MethodName × Nat) := [(⟨"WhirlShaftsModel", "notes", "(IIII)V"⟩, 47), (⟨"WhirlShaftsModel", "becomes", "(III)V"⟩, 47), (⟨"WhirlShaftsModel", "reduces", "()V"⟩, 47), (⟨"WhirlShaftsModel", "weighs", "(I)I"⟩, 47), (⟨"WhirlShaftsModel", "belowAll", "(II)I"⟩, 47), (⟨"WhirlShaftsModel", "transfer", "(IIII)I"⟩, 47), (⟨"WhirlShaftsModel", "signAt", "(I)I"⟩, 47), (⟨"WhirlShaftsModel", "topNow", "()I"⟩, 47), (⟨"WhirlShaftsModel", "isFenced", "(II)Z"⟩, 47), (⟨"WhirlShaftsModel", "fenceOf", "(II)I"⟩, 47), (⟨"WhirlShaftsModel", "bandOf", "(III)I"⟩, 47), (⟨"WhirlShaftsModel", "swaps", "(I)V"⟩, 47), (⟨"WhirlShaftsModel", "fittingKinds", "(IIII)I"⟩, 47), (⟨"WhirlShaftsModel", "isSo", "(III)Z"⟩, 47), (⟨"WhirlShaftsModel", "fittingMasses", "(IIIII)I"⟩, 47), (⟨"WhirlShaftsModel", "passesAll", "(IZ)V"⟩, 47)]
theorem lw_r2 : ∀ q ∈ lw_privs_2, lw_okq q := List.forall_mem_cons.mpr ⟨lw_p16, List.forall_mem_cons.mpr ⟨lw_p17, List.forall_mem_cons.mpr ⟨lw_p18, List.forall_mem_cons.mpr ⟨lw_p19, List.forall_mem_cons.mpr ⟨lw_p20, List.forall_mem_cons.mpr ⟨lw_p21, List.forall_mem_cons.mpr ⟨lw_p22, List.forall_mem_cons.mpr ⟨lw_p23, List.forall_mem_cons.mpr ⟨lw_p24, List.forall_mem_cons.mpr ⟨lw_p25, List.forall_mem_cons.mpr ⟨lw_p26, List.forall_mem_cons.mpr ⟨lw_p27, List.forall_mem_cons.mpr ⟨lw_p28, List.forall_mem_cons.mpr ⟨lw_p29, List.forall_mem_cons.mpr ⟨lw_p30, List.forall_mem_cons.mpr ⟨lw_p31, fun _ h => absurd h List.not_mem_nil⟩⟩⟩⟩⟩⟩⟩⟩⟩⟩⟩⟩⟩⟩⟩⟩
theorem lw_p32 : lw_okq (⟨"WhirlShaftsModel", "passOne", "(I)I"⟩, 47) := ⟨⟨by decide +kernel, by decide +kernel⟩, List.mem_of_getElem? (i := 845) (by decide +kernel), List.mem_of_getElem? (i := 1239) (by decide +kernel), List.mem_of_getElem? (i := 1240) (by decide +kernel)⟩
theorem lw_p33 : lw_okq (⟨"WhirlShaftsModel", "passes", "([I)V"⟩, 47) := ⟨⟨by decide +kernel, by decide +kernel⟩, List.mem_of_getElem? (i := 845) (by decide +kernel), List.mem_of_getElem? (i := 1243) (by decide +kernel), List.mem_of_getElem? (i := 1244) (by decide +kernel)⟩
theorem lw_p34 : lw_okq (⟨"WhirlShaftsModel", "readsAll", "()Z"⟩, 47) := ⟨⟨by decide +kernel, by decide +kernel⟩, List.mem_of_getElem? (i := 845) (by decide +kernel), List.mem_of_getElem? (i := 1268) (by decide +kernel), List.mem_of_getElem? (i := 1269) (by decide +kernel)⟩
theorem lw_p35 : lw_okq (⟨"WhirlShaftsModel", "reads", "()Z"⟩, 47) := ⟨⟨by decide +kernel, by decide +kernel⟩, List.mem_of_getElem? (i := 845) (by decide +kernel), List.mem_of_getElem? (i := 1272) (by decide +kernel), List.mem_of_getElem? (i := 1273) (by decide +kernel)⟩
theorem lw_p36 : lw_okq (⟨"WhirlShaftsModel", "next", "()I"⟩, 47) := ⟨⟨by decide +kernel, by decide +kernel⟩, List.mem_of_getElem? (i := 845) (by decide +kernel), List.mem_of_getElem? (i := 1276) (by decide +kernel), List.mem_of_getElem? (i := 1277) (by decide +kernel)⟩
theorem lw_p37 : lw_okq (⟨"WhirlShaftsModel", "number", "()I"⟩, 47) := ⟨⟨by decide +kernel, by decide +kernel⟩, List.mem_of_getElem? (i := 845) (by decide +kernel), List.mem_of_getElem? (i := 1283) (by decide +kernel), List.mem_of_getElem? (i := 1284) (by decide +kernel)⟩
theorem lw_p38 : lw_okq (⟨"WhirlShaftsModel", "done", "(I)I"⟩, 47) := ⟨⟨by decide +kernel, by decide +kernel⟩, List.mem_of_getElem? (i := 845) (by decide +kernel), List.mem_of_getElem? (i := 1287) (by decide +kernel), List.mem_of_getElem? (i := 1288) (by decide +kernel)⟩
theorem lw_p39 : lw_okq (⟨"WhirlShaftsModel", "spins", "(II)I"⟩, 47) := ⟨⟨by decide +kernel, by decide +kernel⟩, List.mem_of_getElem? (i := 845) (by decide +kernel), List.mem_of_getElem? (i := 1297) (by decide +kernel), List.mem_of_getElem? (i := 1298) (by decide +kernel)⟩
theorem lw_p40 : lw_okq (⟨"WhirlShaftsModel", "note", "(I)V"⟩, 47) := ⟨⟨by decide +kernel, by decide +kernel⟩, List.mem_of_getElem? (i := 845) (by decide +kernel), List.mem_of_getElem? (i := 1301) (by decide +kernel), List.mem_of_getElem? (i := 1302) (by decide +kernel)⟩
theorem lw_p41 : lw_okq (⟨"WhirlShaftsModel", "swings", "(II)I"⟩, 47) := ⟨⟨by decide +kernel, by decide +kernel⟩, List.mem_of_getElem? (i := 845) (by decide +kernel), List.mem_of_getElem? (i := 1305) (by decide +kernel), List.mem_of_getElem? (i := 1306) (by decide +kernel)⟩
theorem lw_p42 : lw_okq (⟨"WhirlShaftsModel", "tells", "(II)I"⟩, 47) := ⟨⟨by decide +kernel, by decide +kernel⟩, List.mem_of_getElem? (i := 845) (by decide +kernel), List.mem_of_getElem? (i := 1309) (by decide +kernel), List.mem_of_getElem? (i := 1310) (by decide +kernel)⟩
theorem lw_p43 : lw_okq (⟨"WhirlShaftsModel", "rowsThere", "()I"⟩, 47) := ⟨⟨by decide +kernel, by decide +kernel⟩, List.mem_of_getElem? (i := 845) (by decide +kernel), List.mem_of_getElem? (i := 1337) (by decide +kernel), List.mem_of_getElem? (i := 1338) (by decide +kernel)⟩
def lw_privs_3 : List (MethodName × Nat) := [(⟨"WhirlShaftsModel", "passOne", "(I)I"⟩, 47), (⟨"WhirlShaftsModel", "passes", "([I)V"⟩, 47), (⟨"WhirlShaftsModel", "readsAll", "()Z"⟩, 47), (⟨"WhirlShaftsModel", "reads", "()Z"⟩, 47), (⟨"WhirlShaftsModel", "next", "()I"⟩, 47), (⟨"WhirlShaftsModel", "number", "()I"⟩, 47), (⟨"WhirlShaftsModel", "done", "(I)I"⟩, 47), (⟨"WhirlShaftsModel", "spins", "(II)I"⟩, 47), (⟨"WhirlShaftsModel", "note", "(I)V"⟩, 47), (⟨"WhirlShaftsModel", "swings", "(II)I"⟩, 47), (⟨"WhirlShaftsModel", "tells", "(II)I"⟩, 47), (⟨"WhirlShaftsModel", "rowsThere", "()I"⟩, 47)]
theorem lw_r3 : ∀ q ∈ lw_privs_3, lw_okq q := List.forall_mem_cons.mpr ⟨lw_p32, List.forall_mem_cons.mpr ⟨lw_p33, List.forall_mem_cons.mpr ⟨lw_p34, List.forall_mem_cons.mpr ⟨lw_p35, List.forall_mem_cons.mpr ⟨lw_p36, List.forall_mem_cons.mpr ⟨lw_p37, List.forall_mem_cons.mpr ⟨lw_p38, List.forall_mem_cons.mpr ⟨lw_p39, List.forall_mem_cons.mpr ⟨lw_p40, List.forall_mem_cons.mpr ⟨lw_p41, List.forall_mem_cons.mpr ⟨lw_p42, List.forall_mem_cons.mpr ⟨lw_p43, fun _ h => absurd h List.not_mem_nil⟩⟩⟩⟩⟩⟩⟩⟩⟩⟩⟩⟩
def lw_privs : List (MethodName × Nat) := lw_privs_1 ++ (lw_privs_2 ++ (lw_privs_3))
def lw_tbl : List Cond := k2_sels lw_privs ++ tables_1
theorem lw_privs_ok : ∀ q ∈ lw_privs, lw_okq q := by
  show ∀ q ∈ lw_privs_1 ++ (lw_privs_2 ++ (lw_privs_3)), lw_okq q
  exact List.forall_mem_append.mpr ⟨lw_r1, List.forall_mem_append.mpr ⟨lw_r2, lw_r3⟩⟩
-- ===== end of PART A; then your names; then what follows =====
/-- the words that may be handed on -/
def q_TW : List Cond := lw_tbl.filter goodWord
end
section
/-! ===== the class and the reference as data: a small machine over named cells =====
A cell has a number; 'q_S' is what all cells hold: ints, longs, and the one reference that moves. -/
abbrev q_L : Type := List (Nat × Value)
abbrev q_S : Type := (Nat → Nat → Int32) × (Nat → Nat → Int64) × Option Nat
abbrev q_A : Type := Option (q_S × Option Value)
abbrev q_I : Type := Instr × List Nat × List (Int32 × Nat)
abbrev q_T : Type := List (List (Option q_I))
/-- a method: its table, what it returns (0 nothing, 1 int, 2 boolean, 3 long), its locals, where it is cut -/
abbrev q_E : Type := q_T × Nat × Nat × List (Nat × List Nat)
abbrev q_X : Type := Nat → Option (Nat × (Nat → Int32))
abbrev q_O : Type := Nat → q_S → List Value → q_A
abbrev q_K : Type := Nat → q_L → List Value → q_S → q_A
def q_at2 {α : Type} (d : α) (T : List (List α)) (i : Nat) : α := match T[i / 16]? with
  | some r => (match r[i % 16]? with | some x => x | none => d)
  | none => d
def q_mem (pc : Nat) : List (Nat × List Nat) → Option (List Nat)
  | [] => none
  | c :: r => match Nat.beq c.1 pc with
    | true => some c.2
    | false => q_mem pc r
def q_lk (i : Nat) : q_L → Option Value
  | [] => none
  | q :: t => match Nat.beq q.1 i with
    | true => some q.2
    | false => q_lk i t
/-- the locals that are kept at a cut, in their order -/
def q_nrm : List Nat → q_L → q_L
  | [], _ => []
  | i :: r, L => match q_lk i L with
    | some v => (i, v) :: q_nrm r L
    | none => q_nrm r L
def q_st1 (L : q_L) (i : Nat) (v : Value) : q_L := (i, v) :: L.filter (fun q => !(q.1 == i) && !(q.1 + 1 == i && q.2.category == 2))
def q_st2 (L : q_L) (i : Nat) (v : Value) : q_L := (i, v) :: L.filter (fun q => !(q.1 == i) && (!(q.1 == i + 1) && !(q.1 + 1 == i && q.2.category == 2)))
def q_rv : Option Nat → Value
  | none => .null
  | some a => .ref a
def q_si (h : q_S) (a i : Nat) (x : Int32) : q_S := (fun b j => if b = a ∧ j = i then x else h.1 b j, h.2.1, h.2.2)
def q_sl (h : q_S) (a i : Nat) (x : Int64) : q_S := (h.1, fun b j => if b = a ∧ j = i then x else h.2.1 b j, h.2.2)
def q_cpi (h : q_S) (a sp b dp n : Nat) : q_S := (fun c j => if c = b then va_cpy (h.1 a) (h.1 b) sp dp n j else h.1 c j, h.2.1, h.2.2)
def q_cpl (h : q_S) (a sp b dp n : Nat) : q_S := (h.1, fun c j => if c = b then va_cpy (h.2.1 a) (h.2.1 b) sp dp n j else h.2.1 c j, h.2.2)
-- what stands on the stack, what stands in the locals
def q_i (st : List Value) (f : Int32 → List Value → q_A) : q_A := match st with
  | .int x :: r => f x r
  | _ => none
def q_ii (st : List Value) (f : Int32 → Int32 → List Value → q_A) : q_A := match st with
  | .int y :: .int x :: r => f x y r
  | _ => none
def q_l (st : List Value) (f : Int64 → List Value → q_A) : q_A := match st with
  | .long x :: r => f x r
  | _ => none
def q_ll (st : List Value) (f : Int64 → Int64 → List Value → q_A) : q_A := match st with
  | .long y :: .long x :: r => f x y r
  | _ => none
def q_li (st : List Value) (f : Int64 → Int32 → List Value → q_A) : q_A := match st with
  | .int y :: .long x :: r => f x y r
  | _ => none
def q_r (st : List Value) (f : Nat → List Value → q_A) : q_A := match st with
  | .ref a :: r => f a r
  | _ => none
def q_ri (st : List Value) (f : Nat → Int32 → List Value → q_A) : q_A := match st with
  | .int i :: .ref a :: r => f a i r
  | _ => none
def q_rr (st : List Value) (f : Nat → Nat → List Value → q_A) : q_A := match st with
  | .ref b :: .ref a :: r => f a b r
  | _ => none
def q_rii (st : List Value) (f : Nat → Int32 → Int32 → List Value → q_A) : q_A := match st with
  | .int x :: .int i :: .ref a :: r => f a i x r
  | _ => none
def q_ril (st : List Value) (f : Nat → Int32 → Int64 → List Value → q_A) : q_A := match st with
  | .long x :: .int i :: .ref a :: r => f a i x r
  | _ => none
def q_ac (st : List Value) (f : Nat → Int32 → Nat → Int32 → Int32 → List Value → q_A) : q_A := match st with
  | .int n :: .int dp :: .ref b :: .int sp :: .ref a :: r => f a sp b dp n r
  | _ => none
def q_v (st : List Value) (f : Value → List Value → q_A) : q_A := match st with
  | v :: r => (match Nat.beq v.category 1 with | true => f v r | false => none)
  | _ => none
def q_vv (st : List Value) (f : Value → Value → List Value → q_A) : q_A := match st with
  | v :: w :: r => (match Nat.beq v.category 1 && Nat.beq w.category 1 with | true => f v w r | false => none)
  | _ => none
def q_gi (L : q_L) (i : Nat) (f : Int32 → q_A) : q_A := match q_lk i L with
  | some (.int x) => f x
  | _ => none
def q_gl (L : q_L) (i : Nat) (f : Int64 → q_A) : q_A := match q_lk i L with
  | some (.long x) => f x
  | _ => none
def q_gr (L : q_L) (i : Nat) (f : Nat → q_A) : q_A := match q_lk i L with
  | some (.ref x) => f x
  | _ => none
def q_b (b : Bool) (f : q_A) : q_A := match b with
  | true => f
  | false => none
/-- a place of an array of n -/
def q_ix (i : Int32) (n : Nat) (f : Nat → q_A) : q_A := if i < 0 ∨ n ≤ i.toNatClampNeg then none else f i.toNatClampNeg
/-- what a call gave -/
def q_c0 (r : q_A) (f : q_S → q_A) : q_A := match r with
  | some (h, none) => f h
  | _ => none
def q_c1 (r : q_A) (f : q_S → Int32 → q_A) : q_A := match r with
  | some (h, some (.int v)) => f h v
  | _ => none
def q_c3 (r : q_A) (f : q_S → Int64 → q_A) : q_A := match r with
  | some (h, some (.long v)) => f h v
  | _ => none
def q_cl (rk : Nat) (r : q_A) (st : List Value) (f : List Value → q_S → q_A) : q_A := match rk with
  | 0 => q_c0 r (fun h => f st h)
  | 1 => q_c1 r (fun h v => f (.int v :: st) h)
  | _ => q_c3 r (fun h v => f (.long v :: st) h)
def q_pop : Nat → List Value → List Value → (List Value → List Value → q_A) → q_A
  | 0, as, st, f => f as st
  | n + 1, as, v :: st, f => q_pop n (v :: as) st f
  | _ + 1, _, [], _ => none
def q_ca : List Value → Nat
  | [] => 0
  | v :: r => v.category + q_ca r
def q_sw : List (Int32 × Nat) → Nat → Int32 → (Nat → q_A) → q_A
  | [], d, _, f => f d
  | q :: r, d, x, f => if x = q.1 then f q.2 else q_sw r d x f
-- the cells
def q_ty (i : Nat) : Nat := q_at2 9 [[3, 2, 3, 3, 3, 3, 3, 0, 0, 0, 0, 0, 3, 0, 0, 0], [0, 0, 3, 0, 0, 0, 0, 0, 3, 0, 0, 0, 0, 0, 3, 0], [0, 0, 3, 0, 0, 0, 3, 0, 0, 0, 0, 3, 1, 1, 1, 2], [1, 1, 1, 1, 1, 1, 1, 1, 1, 3, 0, 0, 2, 3, 3, 3], [1, 1, 1, 3, 0, 0, 0, 0, 0, 0, 0, 0, 0, 0, 1, 0], [0, 0, 0, 0, 0, 0, 0, 1, 1, 0, 0, 0, 0, 0, 0, 0], [0, 0, 0, 0, 0, 0, 4, 4, 4, 4]] i
def q_ln (i : Nat) : Nat := q_at2 0 [[0, 5, 0, 0, 0, 0, 0, 24, 24, 24, 24, 24, 0, 8, 8, 8], [8, 8, 0, 8, 8, 8, 8, 8, 0, 8, 8, 8, 8, 8, 0, 8], [8, 8, 0, 8, 8, 8, 0, 12, 12, 12, 12, 0, 8, 8, 8, 9], [9, 9, 9, 9, 9, 9, 9, 9, 9, 0, 80, 3, 3, 0, 0, 0], [40, 40, 40, 0, 8, 8, 8, 8, 8, 8, 8, 8, 8, 8, 30, 9], [9, 12, 12, 12, 12, 3, 3, 120, 40, 8, 8, 8, 80, 40, 40, 40], [40, 24, 140, 8, 8, 8]] i
def q_cls (i : Nat) : Nat := q_at2 99 [[11, 99, 2, 7, 3, 1, 9, 99, 99, 99, 99, 99, 4, 99, 99, 99], [99, 99, 4, 99, 99, 99, 99, 99, 4, 99, 99, 99, 99, 99, 5, 99], [99, 99, 5, 99, 99, 99, 0, 99, 99, 99, 99, 6, 99, 99, 99, 99], [99, 99, 99, 99, 99, 99, 99, 99, 99, 10, 99, 99, 99, 8, 8, 8], [99, 99, 99, 12, 99, 99, 99, 99, 99, 99, 99, 99, 99, 99, 99, 99], [99, 99, 99, 99, 99, 99, 99, 99, 99, 99, 99, 99, 99, 99, 99, 99], [99, 99, 99, 99, 99, 99]] i
def q_ak (i : Nat) : Nat := q_at2 9 [[3, 2, 3, 3, 3, 3, 3, 0, 0, 0, 0, 0, 3, 0, 0, 0], [0, 0, 3, 0, 0, 0, 0, 0, 3, 0, 0, 0, 0, 0, 3, 0], [0, 0, 3, 0, 0, 0, 3, 0, 0, 0, 0, 3, 1, 1, 1, 4], [1, 1, 1, 1, 1, 1, 1, 1, 1, 3, 0, 0, 3, 3, 3, 3], [1, 1, 1, 3, 0, 0, 0, 0, 0, 0, 0, 0, 0, 0, 1, 0], [0, 0, 0, 0, 0, 0, 0, 1, 1, 0, 0, 0, 0, 0, 0, 0], [0, 0, 0, 0, 0, 0]] i
def q_rfT : List (List (List Nat)) := [[[1, 0, 12, 18, 24, 0, 30, 34, 38, 43, 57, 60], [2, 3, 4, 5, 6], [7], [8], [9], [10], [11], [], [], [], [], [], [1, 13, 14, 15, 16, 17], [], [], []], [[], [], [1, 19, 20, 21, 22, 23], [], [], [], [], [], [1, 25, 26, 27, 28, 29], [], [], [], [], [], [31, 32, 33], []], [[], [], [35, 36, 37], [], [], [], [39, 40, 41, 42], [], [], [], [], [0, 44, 45, 46, 47], [], [], [], [48, 49, 50, 51, 52, 53, 54, 55, 56]], [[], [], [], [], [], [], [], [], [], [58, 0, 0, 59], [], [], [61, 62, 63], [64], [65], [66]], [[], [], [], [0, 0, 0, 68, 69, 70, 71, 72, 73, 74, 75, 76, 77, 78, 79, 80, 81, 82, 83, 84, 0, 0, 85, 86, 87, 88, 0, 89, 90, 91, 92, 93, 94, 95, 96, 0, 0, 0, 97, 0, 98, 99, 100, 101], [], [], [], [], [], [], [], [], [], [], [], []], [[], [], [], [], [], [], [], [], [], [], [], [], [], [], [], []], [[], [], [], [], [], []]]
def q_rf (a k : Nat) : Nat := ((q_at2 [] q_rfT a)[k]?).getD 0
def q_subT : List (List Nat) := [[0], [1, 2, 7], [2], [2, 3], [4], [5], [6], [2, 7], [8], [2, 3, 9], [10], [11], [12]]
def q_memb (n : Nat) : List Nat → Bool
  | [] => false
  | c :: r => match Nat.beq c n with
    | true => true
    | false => q_memb n r
/-- class c is D or under it -/
def q_sub (c D : Nat) : Bool := q_memb D ((q_subT[c]?).getD [])
def q_vtT : List (List (Option Nat)) := [[none, some 8, some 8, some 8, none, none, none, some 8, none, some 8, none, none, none], [none, some 9, some 9, some 9, none, none, none, some 9, none, some 9, none, none, none], [none, some 5, some 10, some 14, none, none, none, some 46, none, some 53, none, none, none], [none, some 7, some 11, some 15, none, none, none, some 11, none, some 15, none, none, none], [none, some 47, some 12, some 12, none, none, none, some 47, none, some 54, none, none, none], [none, some 6, some 13, some 13, none, none, none, some 13, none, some 13, none, none, none]]
def q_vt (x c : Nat) : Option Nat := match q_vtT[x]? with
  | some r => (match r[c]? with | some y => y | none => none)
  | none => none
def q_ald (X : q_X) (h : q_S) (a : Nat) (i : Int32) (f : Int32 → q_A) : q_A := match q_ty a with
  | 0 => q_ix i (q_ln a) (fun j => f (h.1 a j))
  | 4 => (match X a with
    | some (n, g) => q_ix i n (fun j => f (g j))
    | none => none)
  | _ => none
def q_len (X : q_X) (a : Nat) (f : Int32 → q_A) : q_A := match q_ty a with
  | 0 => f (Int32.ofNat (q_ln a))
  | 1 => f (Int32.ofNat (q_ln a))
  | 2 => f (Int32.ofNat (q_ln a))
  | 4 => (match X a with
    | some (n, _) => f (Int32.ofNat n)
    | none => none)
  | _ => none
def q_arc (h : q_S) (a : Nat) (sp : Int32) (b : Nat) (dp n : Int32) (f : q_S → q_A) : q_A :=
  if sp < 0 ∨ dp < 0 ∨ n < 0 ∨ q_ln a < sp.toNatClampNeg + n.toNatClampNeg ∨ q_ln b < dp.toNatClampNeg + n.toNatClampNeg then none else
  match q_ty a, q_ty b with
  | 0, 0 => f (q_cpi h a sp.toNatClampNeg b dp.toNatClampNeg n.toNatClampNeg)
  | 1, 1 => f (q_cpl h a sp.toNatClampNeg b dp.toNatClampNeg n.toNatClampNeg)
  | _, _ => none
/-- one instruction; k goes on -/
def q_body (e : q_E) (X : q_X) (O : q_O) (k : q_K) (pc : Nat) (L : q_L) (st : List Value) (h : q_S) : q_A :=
  match q_at2 none e.1 pc with
  | none => none
  | some (i, au, sw) =>
  match i with
  | .aload_n n => q_gr L n.val (fun a => k (pc + 1) L (.ref a :: st) h)
  | .aload n => q_gr L n (fun a => k (pc + 2) L (.ref a :: st) h)
  | .iload_n n => q_gi L n.val (fun x => k (pc + 1) L (.int x :: st) h)
  | .iload n => q_gi L n (fun x => k (pc + 2) L (.int x :: st) h)
  | .lload_n n => q_gl L n.val (fun x => k (pc + 1) L (.long x :: st) h)
  | .lload n => q_gl L n (fun x => k (pc + 2) L (.long x :: st) h)
  | .astore_n n => q_r st (fun a r => q_b (Nat.blt n.val e.2.2.1) (k (pc + 1) (q_st1 L n.val (.ref a)) r h))
  | .astore n => q_r st (fun a r => q_b (Nat.blt n e.2.2.1) (k (pc + 2) (q_st1 L n (.ref a)) r h))
  | .istore_n n => q_i st (fun x r => q_b (Nat.blt n.val e.2.2.1) (k (pc + 1) (q_st1 L n.val (.int x)) r h))
  | .istore n => q_i st (fun x r => q_b (Nat.blt n e.2.2.1) (k (pc + 2) (q_st1 L n (.int x)) r h))
  | .lstore_n n => q_l st (fun x r => q_b (Nat.blt (n.val + 1) e.2.2.1) (k (pc + 1) (q_st2 L n.val (.long x)) r h))
  | .lstore n => q_l st (fun x r => q_b (Nat.blt (n + 1) e.2.2.1) (k (pc + 2) (q_st2 L n (.long x)) r h))
  | .iinc n _ => (match sw with
    | [q] => q_gi L n (fun x => q_b (Nat.blt n e.2.2.1) (k (pc + 3) (q_st1 L n (.int (x + q.1))) st h))
    | _ => none)
  | .iconst _ => (match sw with
    | [q] => k (pc + 1) L (.int q.1 :: st) h
    | _ => none)
  | .bipush _ => (match sw with
    | [q] => k (pc + 2) L (.int q.1 :: st) h
    | _ => none)
  | .sipush _ => (match sw with
    | [q] => k (pc + 3) L (.int q.1 :: st) h
    | _ => none)
  | .lconst n => k (pc + 1) L (.long (Int64.ofNat n.val) :: st) h
  | .ldc2_w _ => (match au with
    | [c] => k (pc + 3) L (.long (Int64.ofNat c) :: st) h
    | _ => none)
  | .iadd => q_ii st (fun x y r => k (pc + 1) L (.int (x + y) :: r) h)
  | .isub => q_ii st (fun x y r => k (pc + 1) L (.int (x - y) :: r) h)
  | .imul => q_ii st (fun x y r => k (pc + 1) L (.int (x * y) :: r) h)
  | .iand => q_ii st (fun x y r => k (pc + 1) L (.int (x &&& y) :: r) h)
  | .ior => q_ii st (fun x y r => k (pc + 1) L (.int (x ||| y) :: r) h)
  | .ixor => q_ii st (fun x y r => k (pc + 1) L (.int (x ^^^ y) :: r) h)
  | .idiv => q_ii st (fun x y r => if y = 0 then none else k (pc + 1) L (.int (x / y) :: r) h)
  | .irem => q_ii st (fun x y r => if y = 0 then none else k (pc + 1) L (.int (x - x / y * y) :: r) h)
  | .ineg => q_i st (fun x r => k (pc + 1) L (.int (-x) :: r) h)
  | .ishl => q_ii st (fun x y r => k (pc + 1) L (.int (x <<< (y &&& 31)) :: r) h)
  | .ishr => q_ii st (fun x y r => k (pc + 1) L (.int (x >>> (y &&& 31)) :: r) h)
  | .ladd => q_ll st (fun x y r => k (pc + 1) L (.long (x + y) :: r) h)
  | .lsub => q_ll st (fun x y r => k (pc + 1) L (.long (x - y) :: r) h)
  | .lmul => q_ll st (fun x y r => k (pc + 1) L (.long (x * y) :: r) h)
  | .land => q_ll st (fun x y r => k (pc + 1) L (.long (x &&& y) :: r) h)
  | .lor => q_ll st (fun x y r => k (pc + 1) L (.long (x ||| y) :: r) h)
  | .lxor => q_ll st (fun x y r => k (pc + 1) L (.long (x ^^^ y) :: r) h)
  | .ldiv => q_ll st (fun x y r => if y = 0 then none else k (pc + 1) L (.long (x / y) :: r) h)
  | .lrem => q_ll st (fun x y r => if y = 0 then none else k (pc + 1) L (.long (x - x / y * y) :: r) h)
  | .lshl => q_li st (fun x y r => k (pc + 1) L (.long (x <<< (y.toInt64 &&& 63)) :: r) h)
  | .lshr => q_li st (fun x y r => k (pc + 1) L (.long (x >>> (y.toInt64 &&& 63)) :: r) h)
  | .lcmp => q_ll st (fun x y r => k (pc + 1) L (.int (lg_cmp x y) :: r) h)
  | .i2l => q_i st (fun x r => k (pc + 1) L (.long x.toInt64 :: r) h)
  | .l2i => q_l st (fun x r => k (pc + 1) L (.int x.toInt32 :: r) h)
  | .i2b => q_i st (fun x r => k (pc + 1) L (.int x.toInt8.toInt32 :: r) h)
  | .dup => q_v st (fun v r => k (pc + 1) L (v :: v :: r) h)
  | .dup_x1 => q_vv st (fun v w r => k (pc + 1) L (v :: w :: v :: r) h)
  | .dup2 => q_vv st (fun v w r => k (pc + 1) L (v :: w :: v :: w :: r) h)
  | .pop => q_v st (fun _ r => k (pc + 1) L r h)
  | .goto _ => (match au with
    | [t] => k t L st h
    | _ => none)
  | .ifCond c _ => (match au with
    | [t] => q_i st (fun x r => match c with
      | .eq => if x = 0 then k t L r h else k (pc + 3) L r h
      | .ne => if x = 0 then k (pc + 3) L r h else k t L r h
      | .lt => if x < 0 then k t L r h else k (pc + 3) L r h
      | .ge => if x < 0 then k (pc + 3) L r h else k t L r h
      | .gt => if 0 < x then k t L r h else k (pc + 3) L r h
      | .le => if 0 < x then k (pc + 3) L r h else k t L r h)
    | _ => none)
  | .if_icmp c _ => (match au with
    | [t] => q_ii st (fun x y r => match c with
      | .eq => if x = y then k t L r h else k (pc + 3) L r h
      | .ne => if x = y then k (pc + 3) L r h else k t L r h
      | .lt => if x < y then k t L r h else k (pc + 3) L r h
      | .ge => if x < y then k (pc + 3) L r h else k t L r h
      | .gt => if y < x then k t L r h else k (pc + 3) L r h
      | .le => if y < x then k (pc + 3) L r h else k t L r h)
    | _ => none)
  | .ifnull _ => (match au, st with
    | [t], .null :: r => k t L r h
    | [_], .ref _ :: r => k (pc + 3) L r h
    | _, _ => none)
  | .tableswitch _ _ _ _ => (match au with
    | [d] => q_i st (fun x r => q_sw sw d x (fun t => k t L r h))
    | _ => none)
  | .lookupswitch _ _ => (match au with
    | [d] => q_i st (fun x r => q_sw sw d x (fun t => k t L r h))
    | _ => none)
  | .getstatic _ => (match au with
    | [a] => k (pc + 3) L (.ref a :: st) h
    | _ => none)
  | .getfield _ => (match au with
    | [D, n, t] => q_r st (fun a r => q_b (q_sub (q_cls a) D) (match t with
      | 0 => k (pc + 3) L (.int (h.1 a n) :: r) h
      | 1 => k (pc + 3) L (.ref (q_rf a n) :: r) h
      | _ => k (pc + 3) L (q_rv h.2.2 :: r) h))
    | _ => none)
  | .putfield _ => (match au with
    | [D, n, t] => (match t with
      | 0 => q_ri st (fun a x r => q_b (q_sub (q_cls a) D) (k (pc + 3) L r (q_si h a n x)))
      | 4 => q_ri st (fun a x r => q_b (q_sub (q_cls a) D) (if x = 0 ∨ x = 1 then k (pc + 3) L r (q_si h a n x) else none))
      | _ => q_rr st (fun a b r => q_b (q_sub (q_cls a) D) (k (pc + 3) L r (h.1, h.2.1, some b))))
    | _ => none)
  | .iaload => q_ri st (fun a i r => q_ald X h a i (fun x => k (pc + 1) L (.int x :: r) h))
  | .laload => q_ri st (fun a i r => q_b (Nat.beq (q_ty a) 1) (q_ix i (q_ln a) (fun j => k (pc + 1) L (.long (h.2.1 a j) :: r) h)))
  | .aaload => q_ri st (fun a i r => q_b (Nat.beq (q_ty a) 2) (q_ix i (q_ln a) (fun j => k (pc + 1) L (.ref (q_rf a j) :: r) h)))
  | .iastore => q_rii st (fun a i x r => q_b (Nat.beq (q_ty a) 0) (q_ix i (q_ln a) (fun j => k (pc + 1) L r (q_si h a j x))))
  | .lastore => q_ril st (fun a i x r => q_b (Nat.beq (q_ty a) 1) (q_ix i (q_ln a) (fun j => k (pc + 1) L r (q_sl h a j x))))
  | .arraylength => q_r st (fun a r => q_len X a (fun x => k (pc + 1) L (.int x :: r) h))
  | .invokestatic _ => (match au with
    | [y, n, rk] => q_pop n [] st (fun as r => q_b (Nat.ble (q_ca r) 8) (q_cl rk (O y h as) r (fun s h => k (pc + 3) L s h)))
    | [_] => q_ac st (fun a sp b dp n r => q_b (Nat.ble (q_ca r) 8) (q_arc h a sp b dp n (fun h => k (pc + 3) L r h)))
    | _ => none)
  | .invokespecial _ => (match au with
    | [y, n, rk, D] => q_pop n [] st (fun as r => q_r r (fun b r => q_b (q_sub (q_cls b) D && Nat.ble (q_ca r) 8) (q_cl rk (O y h (.ref b :: as)) r (fun s h => k (pc + 3) L s h))))
    | _ => none)
  | .invokevirtual _ => (match au with
    | [y, n, rk, D] => q_pop n [] st (fun as r => q_r r (fun b r => q_b (Nat.beq (q_cls b) D && Nat.ble (q_ca r) 8) (q_cl rk (O y h (.ref b :: as)) r (fun s h => k (pc + 3) L s h))))
    | [x, n, rk, D, _] => q_pop n [] st (fun as r => q_r r (fun b r => match q_vt x (q_cls b) with
      | some y => q_b (q_sub (q_cls b) D && Nat.ble (q_ca r) 8) (q_cl rk (O y h (.ref b :: as)) r (fun s h => k (pc + 3) L s h))
      | none => none))
    | _ => none)
  | .ireturn => (match e.2.1, st with
    | 1, [.int x] => some (h, some (.int x))
    | 2, [.int x] => if x = 0 ∨ x = 1 then some (h, some (.int x)) else none
    | _, _ => none)
  | .lreturn => (match e.2.1, st with
    | 3, [.long x] => some (h, some (.long x))
    | _, _ => none)
  | .return_ => (match e.2.1, st with
    | 0, [] => some (h, none)
    | _, _ => none)
  | _ => none
def q_ex (e : q_E) (X : q_X) (O : q_O) (K : q_K) : Nat → q_K
  | 0, _, _, _, _ => none
  | n + 1, pc, L, st, h => match q_mem pc e.2.2.2 with
    | some ks => K pc (q_nrm ks L) st h
    | none => q_body e X O (q_ex e X O K n) pc L st h
/-- from cut to cut -/
def q_go (e : q_E) (X : q_X) (O : q_O) : Nat → q_K
  | 0, _, _, _, _ => none
  | n + 1, pc, L, st, h => q_body e X O (q_ex e X O (q_go e X O n) 500) pc L st h
end
section
-- WhirlShafts$Changes.forget()V
def e_0 : q_E := ([[some (.aload_n 0, [], []), some (.iconst (0), [], [(0, 0)]), some (.putfield 24, [0, 4, 0], []), none, none, some (.aload_n 0, [], []), some (.iconst (0), [], [(0, 0)]), some (.putfield 28, [0, 5, 0], []), none, none, some (.return_, [], [])]], 0, 1, [])
-- WhirlShafts$Changes.add(IIII)V
def e_1 : q_E := ([[some (.aload_n 0, [], []), some (.iconst (0), [], [(0, 0)]), some (.putfield 28, [0, 5, 0], []), none, none, some (.aload_n 0, [], []), some (.getfield 24, [0, 4, 0], []), none, none, some (.bipush (12), [], [(12, 0)]), none, some (.if_icmp .lt (7), [18], []), none, none, some (.aload_n 0, [], []), some (.invokevirtual 31, [2, 0, 0, 0], [])], [none, none, some (.aload_n 0, [], []), some (.getfield 9, [0, 0, 1], []), none, none, some (.aload_n 0, [], []), some (.getfield 24, [0, 4, 0], []), none, none, some (.iload_n 1, [], []), some (.iastore, [], []), some (.aload_n 0, [], []), some (.getfield 15, [0, 1, 1], []), none, none], [some (.aload_n 0, [], []), some (.getfield 24, [0, 4, 0], []), none, none, some (.iload_n 2, [], []), some (.iastore, [], []), some (.aload_n 0, [], []), some (.getfield 18, [0, 2, 1], []), none, none, some (.aload_n 0, [], []), some (.getfield 24, [0, 4, 0], []), none, none, some (.iload_n 3, [], []), some (.iastore, [], [])], [some (.aload_n 0, [], []), some (.getfield 21, [0, 3, 1], []), none, none, some (.aload_n 0, [], []), some (.getfield 24, [0, 4, 0], []), none, none, some (.iload 4, [], []), none, some (.iastore, [], []), some (.aload_n 0, [], []), some (.dup, [], []), some (.getfield 24, [0, 4, 0], []), none, none], [some (.iconst (1), [], [(1, 0)]), some (.iadd, [], []), some (.putfield 24, [0, 4, 0], []), none, none, some (.return_, [], [])]], 0, 5, [(18, [0, 1, 2, 3, 4])])
-- WhirlShafts$Changes.forgetEldest()V
def e_2 : q_E := ([[some (.aload_n 0, [], []), some (.bipush (11), [], [(11, 0)]), none, some (.putfield 24, [0, 4, 0], []), none, none, some (.aload_n 0, [], []), some (.getfield 9, [0, 0, 1], []), none, none, some (.iconst (1), [], [(1, 0)]), some (.aload_n 0, [], []), some (.getfield 9, [0, 0, 1], []), none, none, some (.iconst (0), [], [(0, 0)])], [some (.aload_n 0, [], []), some (.getfield 24, [0, 4, 0], []), none, none, some (.invokestatic 34, [0], []), none, none, some (.aload_n 0, [], []), some (.getfield 15, [0, 1, 1], []), none, none, some (.iconst (1), [], [(1, 0)]), some (.aload_n 0, [], []), some (.getfield 15, [0, 1, 1], []), none, none], [some (.iconst (0), [], [(0, 0)]), some (.aload_n 0, [], []), some (.getfield 24, [0, 4, 0], []), none, none, some (.invokestatic 34, [0], []), none, none, some (.aload_n 0, [], []), some (.getfield 18, [0, 2, 1], []), none, none, some (.iconst (1), [], [(1, 0)]), some (.aload_n 0, [], []), some (.getfield 18, [0, 2, 1], []), none], [none, some (.iconst (0), [], [(0, 0)]), some (.aload_n 0, [], []), some (.getfield 24, [0, 4, 0], []), none, none, some (.invokestatic 34, [0], []), none, none, some (.aload_n 0, [], []), some (.getfield 21, [0, 3, 1], []), none, none, some (.iconst (1), [], [(1, 0)]), some (.aload_n 0, [], []), some (.getfield 21, [0, 3, 1], [])], [none, none, some (.iconst (0), [], [(0, 0)]), some (.aload_n 0, [], []), some (.getfield 24, [0, 4, 0], []), none, none, some (.invokestatic 34, [0], []), none, none, some (.return_, [], [])]], 0, 1, [])
-- WhirlShafts$Changes.stepBack(LWhirlShafts$Line;)I
def e_3 : q_E := ([[some (.aload_n 0, [], []), some (.dup, [], []), some (.getfield 24, [0, 4, 0], []), none, none, some (.iconst (1), [], [(1, 0)]), some (.isub, [], []), some (.putfield 24, [0, 4, 0], []), none, none, some (.aload_n 0, [], []), some (.dup, [], []), some (.getfield 28, [0, 5, 0], []), none, none, some (.iconst (1), [], [(1, 0)])], [some (.iadd, [], []), some (.putfield 28, [0, 5, 0], []), none, none, some (.aload_n 1, [], []), some (.aload_n 0, [], []), some (.getfield 9, [0, 0, 1], []), none, none, some (.aload_n 0, [], []), some (.getfield 24, [0, 4, 0], []), none, none, some (.iaload, [], []), some (.aload_n 0, [], []), some (.getfield 15, [0, 1, 1], [])], [none, none, some (.aload_n 0, [], []), some (.getfield 24, [0, 4, 0], []), none, none, some (.iaload, [], []), some (.aload_n 0, [], []), some (.getfield 18, [0, 2, 1], []), none, none, some (.aload_n 0, [], []), some (.getfield 24, [0, 4, 0], []), none, none, some (.iaload, [], [])], [some (.invokevirtual 40, [24, 3, 0, 4], []), none, none, some (.aload_n 0, [], []), some (.getfield 24, [0, 4, 0], []), none, none, some (.ireturn, [], [])]], 1, 2, [])
-- WhirlShafts$Changes.stepOn(LWhirlShafts$Line;)I
def e_4 : q_E := ([[some (.aload_n 1, [], []), some (.aload_n 0, [], []), some (.getfield 9, [0, 0, 1], []), none, none, some (.aload_n 0, [], []), some (.getfield 24, [0, 4, 0], []), none, none, some (.iaload, [], []), some (.aload_n 0, [], []), some (.getfield 15, [0, 1, 1], []), none, none, some (.aload_n 0, [], []), some (.getfield 24, [0, 4, 0], [])], [none, none, some (.iaload, [], []), some (.aload_n 0, [], []), some (.getfield 21, [0, 3, 1], []), none, none, some (.aload_n 0, [], []), some (.getfield 24, [0, 4, 0], []), none, none, some (.iaload, [], []), some (.invokevirtual 40, [24, 3, 0, 4], []), none, none, some (.aload_n 0, [], [])], [some (.dup, [], []), some (.getfield 24, [0, 4, 0], []), none, none, some (.iconst (1), [], [(1, 0)]), some (.iadd, [], []), some (.putfield 24, [0, 4, 0], []), none, none, some (.aload_n 0, [], []), some (.dup, [], []), some (.getfield 28, [0, 5, 0], []), none, none, some (.iconst (1), [], [(1, 0)]), some (.isub, [], [])], [some (.putfield 28, [0, 5, 0], []), none, none, some (.aload_n 0, [], []), some (.getfield 28, [0, 5, 0], []), none, none, some (.ireturn, [], [])]], 1, 2, [])
-- WhirlShafts$Crown.weighs(II)I
def e_5 : q_E := ([[some (.aload_n 0, [], []), some (.iload_n 1, [], []), some (.iload_n 2, [], []), some (.invokespecial 7, [46, 2, 1, 1], []), none, none, some (.iconst (3), [], [(3, 0)]), some (.iadd, [], []), some (.ireturn, [], [])]], 1, 3, [])
-- WhirlShafts$Crown.tells(I)I
def e_6 : q_E := ([[some (.aload_n 0, [], []), some (.bipush (40), [], [(40, 0)]), none, some (.invokevirtual 11, [1, 1, 0, 1, 0], []), none, none, some (.aload_n 0, [], []), some (.iload_n 1, [], []), some (.iconst (1), [], [(1, 0)]), some (.iadd, [], []), some (.invokespecial 17, [13, 1, 1, 1], []), none, none, some (.ireturn, [], [])]], 1, 2, [])
-- WhirlShafts$Crown.spins(I)I
def e_7 : q_E := ([[some (.aload_n 0, [], []), some (.bipush (41), [], [(41, 0)]), none, some (.invokevirtual 11, [1, 1, 0, 1, 0], []), none, none, some (.aload_n 0, [], []), some (.iload_n 1, [], []), some (.invokespecial 21, [11, 1, 1, 1], []), none, none, some (.iconst (3), [], [(3, 0)]), some (.imul, [], []), some (.ireturn, [], [])]], 1, 2, [])
-- WhirlShafts$Disc.begin(II)V
def e_8 : q_E := ([[some (.aload_n 0, [], []), some (.iconst (0), [], [(0, 0)]), some (.putfield 15, [2, 1, 0], []), none, none, some (.aload_n 0, [], []), some (.iload_n 1, [], []), some (.putfield 19, [2, 2, 0], []), none, none, some (.aload_n 0, [], []), some (.iload_n 2, [], []), some (.putfield 22, [2, 3, 0], []), none, none, some (.return_, [], [])]], 0, 3, [])
-- WhirlShafts$Disc.note(I)V
def e_9 : q_E := ([[some (.aload_n 0, [], []), some (.getfield 15, [2, 1, 0], []), none, none, some (.bipush (24), [], [(24, 0)]), none, some (.if_icmp .ge (23), [29], []), none, none, some (.aload_n 0, [], []), some (.getfield 9, [2, 0, 1], []), none, none, some (.aload_n 0, [], []), some (.getfield 15, [2, 1, 0], []), none], [none, some (.iload_n 1, [], []), some (.iastore, [], []), some (.aload_n 0, [], []), some (.dup, [], []), some (.getfield 15, [2, 1, 0], []), none, none, some (.iconst (1), [], [(1, 0)]), some (.iadd, [], []), some (.putfield 15, [2, 1, 0], []), none, none, some (.return_, [], [])]], 0, 2, [])
-- WhirlShafts$Disc.weighs(II)I
def e_10 : q_E := ([[some (.iload_n 1, [], []), some (.ireturn, [], [])]], 1, 3, [])
-- WhirlShafts$Disc.spins(I)I
def e_11 : q_E := ([[some (.aload_n 0, [], []), some (.bipush (10), [], [(10, 0)]), none, some (.invokevirtual 25, [1, 1, 0, 2, 0], []), none, none, some (.iload_n 1, [], []), some (.aload_n 0, [], []), some (.getfield 19, [2, 2, 0], []), none, none, some (.iadd, [], []), some (.ireturn, [], [])]], 1, 2, [])
-- WhirlShafts$Disc.swings(I)I
def e_12 : q_E := ([[some (.aload_n 0, [], []), some (.bipush (11), [], [(11, 0)]), none, some (.invokevirtual 25, [1, 1, 0, 2, 0], []), none, none, some (.aload_n 0, [], []), some (.iload_n 1, [], []), some (.invokevirtual 29, [3, 1, 1, 2, 0], []), none, none, some (.iconst (2), [], [(2, 0)]), some (.imul, [], []), some (.ireturn, [], [])]], 1, 2, [])
-- WhirlShafts$Disc.tells(I)I
def e_13 : q_E := ([[some (.aload_n 0, [], []), some (.bipush (12), [], [(12, 0)]), none, some (.invokevirtual 25, [1, 1, 0, 2, 0], []), none, none, some (.aload_n 0, [], []), some (.iload_n 1, [], []), some (.invokevirtual 33, [4, 1, 1, 2, 0], []), none, none, some (.aload_n 0, [], []), some (.getfield 22, [2, 3, 0], []), none, none, some (.isub, [], [])], [some (.ireturn, [], [])]], 1, 2, [])
-- WhirlShafts$Hub.weighs(II)I
def e_14 : q_E := ([[some (.iload_n 1, [], []), some (.iconst (1), [], [(1, 0)]), some (.iadd, [], []), some (.iconst (2), [], [(2, 0)]), some (.idiv, [], []), some (.ireturn, [], [])]], 1, 3, [])
-- WhirlShafts$Hub.spins(I)I
def e_15 : q_E := ([[some (.aload_n 0, [], []), some (.bipush (30), [], [(30, 0)]), none, some (.invokevirtual 7, [1, 1, 0, 3, 0], []), none, none, some (.aload_n 0, [], []), some (.iload_n 1, [], []), some (.invokespecial 13, [11, 1, 1, 3], []), none, none, some (.ineg, [], []), some (.ireturn, [], [])]], 1, 2, [])
-- WhirlShafts$Line.takeFrom(LWhirlShafts$Line;)V
def e_16 : q_E := ([[some (.aload_n 0, [], []), some (.aload_n 1, [], []), some (.getfield 31, [4, 6, 0], []), none, none, some (.putfield 31, [4, 6, 0], []), none, none, some (.aload_n 0, [], []), some (.aload_n 1, [], []), some (.getfield 35, [4, 7, 0], []), none, none, some (.putfield 35, [4, 7, 0], []), none, none], [some (.aload_n 0, [], []), some (.aload_n 1, [], []), some (.getfield 38, [4, 8, 0], []), none, none, some (.putfield 38, [4, 8, 0], []), none, none, some (.aload_n 1, [], []), some (.getfield 9, [4, 1, 1], []), none, none, some (.iconst (0), [], [(0, 0)]), some (.aload_n 0, [], []), some (.getfield 9, [4, 1, 1], []), none], [none, some (.iconst (0), [], [(0, 0)]), some (.bipush (8), [], [(8, 0)]), none, some (.invokestatic 41, [0], []), none, none, some (.aload_n 1, [], []), some (.getfield 15, [4, 2, 1], []), none, none, some (.iconst (0), [], [(0, 0)]), some (.aload_n 0, [], []), some (.getfield 15, [4, 2, 1], []), none, none], [some (.iconst (0), [], [(0, 0)]), some (.bipush (8), [], [(8, 0)]), none, some (.invokestatic 41, [0], []), none, none, some (.aload_n 1, [], []), some (.getfield 18, [4, 3, 1], []), none, none, some (.iconst (0), [], [(0, 0)]), some (.aload_n 0, [], []), some (.getfield 18, [4, 3, 1], []), none, none, some (.iconst (0), [], [(0, 0)])], [some (.bipush (8), [], [(8, 0)]), none, some (.invokestatic 41, [0], []), none, none, some (.aload_n 1, [], []), some (.getfield 21, [4, 4, 1], []), none, none, some (.iconst (0), [], [(0, 0)]), some (.aload_n 0, [], []), some (.getfield 21, [4, 4, 1], []), none, none, some (.iconst (0), [], [(0, 0)]), some (.bipush (8), [], [(8, 0)])], [none, some (.invokestatic 41, [0], []), none, none, some (.aload_n 1, [], []), some (.getfield 24, [4, 5, 1], []), none, none, some (.iconst (0), [], [(0, 0)]), some (.aload_n 0, [], []), some (.getfield 24, [4, 5, 1], []), none, none, some (.iconst (0), [], [(0, 0)]), some (.bipush (8), [], [(8, 0)]), none], [some (.invokestatic 41, [0], []), none, none, some (.return_, [], [])]], 0, 2, [])
-- WhirlShafts$Line.join(III)I
def e_17 : q_E := ([[some (.aload_n 0, [], []), some (.getfield 9, [4, 1, 1], []), none, none, some (.aload_n 0, [], []), some (.getfield 31, [4, 6, 0], []), none, none, some (.iload_n 1, [], []), some (.iastore, [], []), some (.aload_n 0, [], []), some (.getfield 15, [4, 2, 1], []), none, none, some (.aload_n 0, [], []), some (.getfield 31, [4, 6, 0], [])], [none, none, some (.iload_n 2, [], []), some (.iastore, [], []), some (.aload_n 0, [], []), some (.getfield 18, [4, 3, 1], []), none, none, some (.aload_n 0, [], []), some (.getfield 31, [4, 6, 0], []), none, none, some (.iconst (0), [], [(0, 0)]), some (.iastore, [], []), some (.aload_n 0, [], []), some (.getfield 31, [4, 6, 0], [])], [none, none, some (.ifCond .le (27), [61], []), none, none, some (.aload_n 0, [], []), some (.getfield 21, [4, 4, 1], []), none, none, some (.aload_n 0, [], []), some (.getfield 31, [4, 6, 0], []), none, none, some (.iconst (1), [], [(1, 0)]), some (.isub, [], []), some (.iload_n 3, [], [])], [some (.iastore, [], []), some (.aload_n 0, [], []), some (.getfield 24, [4, 5, 1], []), none, none, some (.aload_n 0, [], []), some (.getfield 31, [4, 6, 0], []), none, none, some (.iconst (1), [], [(1, 0)]), some (.isub, [], []), some (.iconst (1), [], [(1, 0)]), some (.iastore, [], []), some (.aload_n 0, [], []), some (.dup, [], []), some (.getfield 31, [4, 6, 0], [])], [none, none, some (.iconst (1), [], [(1, 0)]), some (.iadd, [], []), some (.putfield 31, [4, 6, 0], []), none, none, some (.aload_n 0, [], []), some (.getfield 31, [4, 6, 0], []), none, none, some (.iconst (1), [], [(1, 0)]), some (.isub, [], []), some (.ireturn, [], [])]], 1, 4, [(61, [0])])
-- WhirlShafts$Line.swap(I)V
def e_18 : q_E := ([[some (.aload_n 0, [], []), some (.getfield 9, [4, 1, 1], []), none, none, some (.iload_n 1, [], []), some (.iaload, [], []), some (.istore_n 2, [], []), some (.aload_n 0, [], []), some (.getfield 15, [4, 2, 1], []), none, none, some (.iload_n 1, [], []), some (.iaload, [], []), some (.istore_n 3, [], []), some (.aload_n 0, [], []), some (.getfield 9, [4, 1, 1], [])], [none, none, some (.iload_n 1, [], []), some (.aload_n 0, [], []), some (.getfield 9, [4, 1, 1], []), none, none, some (.iload_n 1, [], []), some (.iconst (1), [], [(1, 0)]), some (.iadd, [], []), some (.iaload, [], []), some (.iastore, [], []), some (.aload_n 0, [], []), some (.getfield 15, [4, 2, 1], []), none, none], [some (.iload_n 1, [], []), some (.aload_n 0, [], []), some (.getfield 15, [4, 2, 1], []), none, none, some (.iload_n 1, [], []), some (.iconst (1), [], [(1, 0)]), some (.iadd, [], []), some (.iaload, [], []), some (.iastore, [], []), some (.aload_n 0, [], []), some (.getfield 9, [4, 1, 1], []), none, none, some (.iload_n 1, [], []), some (.iconst (1), [], [(1, 0)])], [some (.iadd, [], []), some (.iload_n 2, [], []), some (.iastore, [], []), some (.aload_n 0, [], []), some (.getfield 15, [4, 2, 1], []), none, none, some (.iload_n 1, [], []), some (.iconst (1), [], [(1, 0)]), some (.iadd, [], []), some (.iload_n 3, [], []), some (.iastore, [], []), some (.return_, [], [])]], 0, 4, [])
-- WhirlShafts$Line.hasDisc(I)Z
def e_19 : q_E := ([[some (.iload_n 1, [], []), some (.ifCond .lt (15), [16], []), none, none, some (.iload_n 1, [], []), some (.aload_n 0, [], []), some (.getfield 31, [4, 6, 0], []), none, none, some (.if_icmp .ge (7), [16], []), none, none, some (.iconst (1), [], [(1, 0)]), some (.goto (4), [17], []), none, none], [some (.iconst (0), [], [(0, 0)]), some (.ireturn, [], [])]], 2, 2, [])
-- WhirlShafts$Line.hasShaft(I)Z
def e_20 : q_E := ([[some (.iload_n 1, [], []), some (.ifCond .lt (17), [18], []), none, none, some (.iload_n 1, [], []), some (.aload_n 0, [], []), some (.getfield 31, [4, 6, 0], []), none, none, some (.iconst (1), [], [(1, 0)]), some (.isub, [], []), some (.if_icmp .ge (7), [18], []), none, none, some (.iconst (1), [], [(1, 0)]), some (.goto (4), [19], [])], [none, none, some (.iconst (0), [], [(0, 0)]), some (.ireturn, [], [])]], 2, 2, [])
-- WhirlShafts$Line.hasPlace(II)Z
def e_21 : q_E := ([[some (.iload_n 1, [], []), some (.tableswitch (53) (0) (5) #[39, 45, 39, 45, 51, 51], [54], [(0, 40), (1, 46), (2, 40), (3, 46), (4, 52), (5, 52)]), none, none, none, none, none, none, none, none, none, none, none, none, none, none], [none, none, none, none, none, none, none, none, none, none, none, none, none, none, none, none], [none, none, none, none, none, none, none, none, some (.aload_n 0, [], []), some (.iload_n 2, [], []), some (.invokevirtual 47, [19, 1, 1, 4], []), none, none, some (.ireturn, [], []), some (.aload_n 0, [], []), some (.iload_n 2, [], [])], [some (.invokevirtual 51, [20, 1, 1, 4], []), none, none, some (.ireturn, [], []), some (.iconst (1), [], [(1, 0)]), some (.ireturn, [], []), some (.iconst (0), [], [(0, 0)]), some (.ireturn, [], [])]], 2, 3, [])
-- WhirlShafts$Line.refusal(III)I
def e_22 : q_E := ([[some (.aload_n 0, [], []), some (.iload_n 1, [], []), some (.iload_n 2, [], []), some (.invokevirtual 54, [21, 2, 1, 4], []), none, none, some (.ifCond .eq (11), [17], []), none, none, some (.iload_n 1, [], []), some (.iload_n 3, [], []), some (.invokestatic 58, [105, 2, 1], []), none, none, some (.ifCond .ne (5), [19], []), none], [none, some (.iconst (-1), [], [(-1, 0)]), some (.ireturn, [], []), some (.iload_n 1, [], []), some (.iconst (3), [], [(3, 0)]), some (.if_icmp .ne (18), [39], []), none, none, some (.aload_n 0, [], []), some (.iload_n 2, [], []), some (.invokevirtual 61, [26, 1, 1, 4], []), none, none, some (.iload_n 3, [], []), some (.imul, [], []), some (.bipush (6), [], [(6, 0)])], [none, some (.if_icmp .le (6), [39], []), none, none, some (.bipush (-5), [], [(-5, 0)]), none, some (.ireturn, [], []), some (.iconst (0), [], [(0, 0)]), some (.ireturn, [], [])]], 1, 4, [])
-- WhirlShafts$Line.told(II)I
def e_23 : q_E := ([[some (.iload_n 1, [], []), some (.tableswitch (68) (0) (4) #[35, 42, 49, 56, 63], [69], [(0, 36), (1, 43), (2, 50), (3, 57), (4, 64)]), none, none, none, none, none, none, none, none, none, none, none, none, none, none], [none, none, none, none, none, none, none, none, none, none, none, none, none, none, none, none], [none, none, none, none, some (.aload_n 0, [], []), some (.getfield 15, [4, 2, 1], []), none, none, some (.iload_n 2, [], []), some (.iaload, [], []), some (.ireturn, [], []), some (.aload_n 0, [], []), some (.getfield 21, [4, 4, 1], []), none, none, some (.iload_n 2, [], [])], [some (.iaload, [], []), some (.ireturn, [], []), some (.aload_n 0, [], []), some (.getfield 18, [4, 3, 1], []), none, none, some (.iload_n 2, [], []), some (.iaload, [], []), some (.ireturn, [], []), some (.aload_n 0, [], []), some (.getfield 24, [4, 5, 1], []), none, none, some (.iload_n 2, [], []), some (.iaload, [], []), some (.ireturn, [], [])], [some (.aload_n 0, [], []), some (.getfield 35, [4, 7, 0], []), none, none, some (.ireturn, [], []), some (.aload_n 0, [], []), some (.getfield 38, [4, 8, 0], []), none, none, some (.ireturn, [], [])]], 1, 3, [])
-- WhirlShafts$Line.tell(III)V
def e_24 : q_E := ([[some (.iload_n 1, [], []), some (.tableswitch (83) (0) (4) #[35, 45, 55, 65, 75], [84], [(0, 36), (1, 46), (2, 56), (3, 66), (4, 76)]), none, none, none, none, none, none, none, none, none, none, none, none, none, none], [none, none, none, none, none, none, none, none, none, none, none, none, none, none, none, none], [none, none, none, none, some (.aload_n 0, [], []), some (.getfield 15, [4, 2, 1], []), none, none, some (.iload_n 2, [], []), some (.iload_n 3, [], []), some (.iastore, [], []), some (.goto (46), [89], []), none, none, some (.aload_n 0, [], []), some (.getfield 21, [4, 4, 1], [])], [none, none, some (.iload_n 2, [], []), some (.iload_n 3, [], []), some (.iastore, [], []), some (.goto (36), [89], []), none, none, some (.aload_n 0, [], []), some (.getfield 18, [4, 3, 1], []), none, none, some (.iload_n 2, [], []), some (.iload_n 3, [], []), some (.iastore, [], []), some (.goto (26), [89], [])], [none, none, some (.aload_n 0, [], []), some (.getfield 24, [4, 5, 1], []), none, none, some (.iload_n 2, [], []), some (.iload_n 3, [], []), some (.iastore, [], []), some (.goto (16), [89], []), none, none, some (.aload_n 0, [], []), some (.iload_n 3, [], []), some (.putfield 35, [4, 7, 0], []), none], [none, some (.goto (8), [89], []), none, none, some (.aload_n 0, [], []), some (.iload_n 3, [], []), some (.putfield 38, [4, 8, 0], []), none, none, some (.return_, [], [])]], 0, 4, [])
-- WhirlShafts$Line.ratios(I)I
def e_25 : q_E := ([[some (.iconst (1), [], [(1, 0)]), some (.istore_n 2, [], []), some (.iconst (0), [], [(0, 0)]), some (.istore_n 3, [], []), some (.iload_n 3, [], []), some (.iload_n 1, [], []), some (.if_icmp .ge (18), [24], []), none, none, some (.iload_n 2, [], []), some (.aload_n 0, [], []), some (.getfield 24, [4, 5, 1], []), none, none, some (.iload_n 3, [], []), some (.iaload, [], [])], [some (.imul, [], []), some (.istore_n 2, [], []), some (.iinc 3 (1), [], [(1, 0)]), none, none, some (.goto (-17), [4], []), none, none, some (.iload_n 2, [], []), some (.ireturn, [], [])]], 1, 4, [(4, [0, 1, 2, 3])])
-- WhirlShafts$Line.ratiosBut(I)I
def e_26 : q_E := ([[some (.iconst (1), [], [(1, 0)]), some (.istore_n 2, [], []), some (.iconst (0), [], [(0, 0)]), some (.istore_n 3, [], []), some (.iload_n 3, [], []), some (.aload_n 0, [], []), some (.getfield 31, [4, 6, 0], []), none, none, some (.iconst (1), [], [(1, 0)]), some (.isub, [], []), some (.if_icmp .ge (23), [34], []), none, none, some (.iload_n 3, [], []), some (.iload_n 1, [], [])], [some (.if_icmp .eq (12), [28], []), none, none, some (.iload_n 2, [], []), some (.aload_n 0, [], []), some (.getfield 24, [4, 5, 1], []), none, none, some (.iload_n 3, [], []), some (.iaload, [], []), some (.imul, [], []), some (.istore_n 2, [], []), some (.iinc 3 (1), [], [(1, 0)]), none, none, some (.goto (-27), [4], [])], [none, none, some (.iload_n 2, [], []), some (.ireturn, [], [])]], 1, 4, [(4, [0, 1, 2, 3])])
-- WhirlShafts$Line.factor(I)I
def e_27 : q_E := ([[some (.aload_n 0, [], []), some (.iload_n 1, [], []), some (.invokevirtual 65, [25, 1, 1, 4], []), none, none, some (.istore_n 2, [], []), some (.iload_n 2, [], []), some (.iload_n 2, [], []), some (.imul, [], []), some (.ireturn, [], [])]], 1, 3, [])
-- WhirlShafts$Line.weight(I)I
def e_28 : q_E := ([[some (.aload_n 0, [], []), some (.getfield 27, [4, 0, 1], []), none, none, some (.aload_n 0, [], []), some (.getfield 9, [4, 1, 1], []), none, none, some (.iload_n 1, [], []), some (.iaload, [], []), some (.aaload, [], []), some (.aload_n 0, [], []), some (.getfield 15, [4, 2, 1], []), none, none, some (.iload_n 1, [], [])], [some (.iaload, [], []), some (.aload_n 0, [], []), some (.getfield 35, [4, 7, 0], []), none, none, some (.invokevirtual 68, [2, 2, 1, 2, 0], []), none, none, some (.ireturn, [], [])]], 1, 2, [(11, [0, 1])])
-- WhirlShafts$Line.reducedInertia(I)I
def e_29 : q_E := ([[some (.aload_n 0, [], []), some (.iload_n 1, [], []), some (.invokevirtual 74, [28, 1, 1, 4], []), none, none, some (.istore_n 2, [], []), some (.aload_n 0, [], []), some (.getfield 38, [4, 8, 0], []), none, none, some (.iconst (1), [], [(1, 0)]), some (.if_icmp .ne (18), [29], []), none, none, some (.iload_n 2, [], []), some (.iload_n 2, [], [])], [some (.aload_n 0, [], []), some (.getfield 35, [4, 7, 0], []), none, none, some (.imul, [], []), some (.bipush (20), [], [(20, 0)]), none, some (.idiv, [], []), some (.isub, [], []), some (.istore_n 2, [], []), some (.goto (23), [49], []), none, none, some (.aload_n 0, [], []), some (.getfield 38, [4, 8, 0], []), none], [none, some (.iconst (2), [], [(2, 0)]), some (.if_icmp .ne (15), [49], []), none, none, some (.iload_n 2, [], []), some (.iload_n 2, [], []), some (.aload_n 0, [], []), some (.getfield 35, [4, 7, 0], []), none, none, some (.imul, [], []), some (.bipush (10), [], [(10, 0)]), none, some (.idiv, [], []), some (.iadd, [], [])], [some (.istore_n 2, [], []), some (.iload_n 2, [], []), some (.aload_n 0, [], []), some (.iload_n 1, [], []), some (.invokevirtual 77, [27, 1, 1, 4], []), none, none, some (.imul, [], []), some (.ireturn, [], [])]], 1, 3, [])
-- WhirlShafts$Line.reducedBearing(I)I
def e_30 : q_E := ([[some (.aload_n 0, [], []), some (.getfield 18, [4, 3, 1], []), none, none, some (.iload_n 1, [], []), some (.iaload, [], []), some (.aload_n 0, [], []), some (.iload_n 1, [], []), some (.invokevirtual 77, [27, 1, 1, 4], []), none, none, some (.imul, [], []), some (.ireturn, [], [])]], 1, 2, [])
-- WhirlShafts$Line.reducedStiff(I)I
def e_31 : q_E := ([[some (.aload_n 0, [], []), some (.getfield 21, [4, 4, 1], []), none, none, some (.iload_n 1, [], []), some (.iaload, [], []), some (.aload_n 0, [], []), some (.iload_n 1, [], []), some (.invokevirtual 77, [27, 1, 1, 4], []), none, none, some (.imul, [], []), some (.ireturn, [], [])]], 1, 2, [])
-- WhirlShafts$Line.holds(I)I
def e_32 : q_E := ([[some (.aload_n 0, [], []), some (.iload_n 1, [], []), some (.invokevirtual 80, [30, 1, 1, 4], []), none, none, some (.istore_n 2, [], []), some (.iload_n 1, [], []), some (.ifCond .le (13), [20], []), none, none, some (.iload_n 2, [], []), some (.aload_n 0, [], []), some (.iload_n 1, [], []), some (.iconst (1), [], [(1, 0)]), some (.isub, [], []), some (.invokevirtual 83, [31, 1, 1, 4], [])], [none, none, some (.iadd, [], []), some (.istore_n 2, [], []), some (.iload_n 1, [], []), some (.aload_n 0, [], []), some (.getfield 31, [4, 6, 0], []), none, none, some (.iconst (1), [], [(1, 0)]), some (.isub, [], []), some (.if_icmp .ge (11), [38], []), none, none, some (.iload_n 2, [], []), some (.aload_n 0, [], [])], [some (.iload_n 1, [], []), some (.invokevirtual 83, [31, 1, 1, 4], []), none, none, some (.iadd, [], []), some (.istore_n 2, [], []), some (.iload_n 2, [], []), some (.ireturn, [], [])]], 1, 3, [(20, [0, 1, 2])])
-- WhirlShafts$Line.reducesLike(LWhirlShafts$Line;)Z
def e_33 : q_E := ([[some (.aload_n 0, [], []), some (.getfield 31, [4, 6, 0], []), none, none, some (.aload_n 1, [], []), some (.getfield 31, [4, 6, 0], []), none, none, some (.if_icmp .eq (5), [13], []), none, none, some (.iconst (0), [], [(0, 0)]), some (.ireturn, [], []), some (.iconst (0), [], [(0, 0)]), some (.istore_n 2, [], []), some (.iload_n 2, [], [])], [some (.aload_n 0, [], []), some (.getfield 31, [4, 6, 0], []), none, none, some (.if_icmp .ge (62), [82], []), none, none, some (.aload_n 0, [], []), some (.iload_n 2, [], []), some (.invokevirtual 86, [29, 1, 1, 4], []), none, none, some (.aload_n 1, [], []), some (.iload_n 2, [], []), some (.invokevirtual 86, [29, 1, 1, 4], []), none], [none, some (.if_icmp .ne (16), [49], []), none, none, some (.aload_n 0, [], []), some (.iload_n 2, [], []), some (.invokevirtual 80, [30, 1, 1, 4], []), none, none, some (.aload_n 1, [], []), some (.iload_n 2, [], []), some (.invokevirtual 80, [30, 1, 1, 4], []), none, none, some (.if_icmp .eq (5), [51], []), none], [none, some (.iconst (0), [], [(0, 0)]), some (.ireturn, [], []), some (.iload_n 2, [], []), some (.aload_n 0, [], []), some (.getfield 31, [4, 6, 0], []), none, none, some (.iconst (1), [], [(1, 0)]), some (.isub, [], []), some (.if_icmp .ge (18), [76], []), none, none, some (.aload_n 0, [], []), some (.iload_n 2, [], []), some (.invokevirtual 83, [31, 1, 1, 4], [])], [none, none, some (.aload_n 1, [], []), some (.iload_n 2, [], []), some (.invokevirtual 83, [31, 1, 1, 4], []), none, none, some (.if_icmp .eq (5), [76], []), none, none, some (.iconst (0), [], [(0, 0)]), some (.ireturn, [], []), some (.iinc 2 (1), [], [(1, 0)]), none, none, some (.goto (-64), [15], [])], [none, none, some (.iconst (1), [], [(1, 0)]), some (.ireturn, [], [])]], 2, 3, [(15, [0, 1, 2])])
-- WhirlShafts$Orders.add(III)I
def e_34 : q_E := ([[some (.aload_n 0, [], []), some (.getfield 9, [5, 0, 1], []), none, none, some (.aload_n 0, [], []), some (.getfield 21, [5, 3, 0], []), none, none, some (.iload_n 1, [], []), some (.iastore, [], []), some (.aload_n 0, [], []), some (.getfield 15, [5, 1, 1], []), none, none, some (.aload_n 0, [], []), some (.getfield 21, [5, 3, 0], [])], [none, none, some (.iload_n 2, [], []), some (.iastore, [], []), some (.aload_n 0, [], []), some (.getfield 18, [5, 2, 1], []), none, none, some (.aload_n 0, [], []), some (.getfield 21, [5, 3, 0], []), none, none, some (.iload_n 3, [], []), some (.iastore, [], []), some (.aload_n 0, [], []), some (.dup, [], [])], [some (.getfield 21, [5, 3, 0], []), none, none, some (.iconst (1), [], [(1, 0)]), some (.iadd, [], []), some (.putfield 21, [5, 3, 0], []), none, none, some (.aload_n 0, [], []), some (.getfield 21, [5, 3, 0], []), none, none, some (.ireturn, [], [])]], 1, 4, [])
-- WhirlShafts$Orders.takeFrom(LWhirlShafts$Orders;)V
def e_35 : q_E := ([[some (.aload_n 0, [], []), some (.aload_n 1, [], []), some (.getfield 21, [5, 3, 0], []), none, none, some (.putfield 21, [5, 3, 0], []), none, none, some (.aload_n 1, [], []), some (.getfield 9, [5, 0, 1], []), none, none, some (.iconst (0), [], [(0, 0)]), some (.aload_n 0, [], []), some (.getfield 9, [5, 0, 1], []), none], [none, some (.iconst (0), [], [(0, 0)]), some (.bipush (8), [], [(8, 0)]), none, some (.invokestatic 25, [0], []), none, none, some (.aload_n 1, [], []), some (.getfield 15, [5, 1, 1], []), none, none, some (.iconst (0), [], [(0, 0)]), some (.aload_n 0, [], []), some (.getfield 15, [5, 1, 1], []), none, none], [some (.iconst (0), [], [(0, 0)]), some (.bipush (8), [], [(8, 0)]), none, some (.invokestatic 25, [0], []), none, none, some (.aload_n 1, [], []), some (.getfield 18, [5, 2, 1], []), none, none, some (.iconst (0), [], [(0, 0)]), some (.aload_n 0, [], []), some (.getfield 18, [5, 2, 1], []), none, none, some (.iconst (0), [], [(0, 0)])], [some (.bipush (8), [], [(8, 0)]), none, some (.invokestatic 25, [0], []), none, none, some (.return_, [], [])]], 0, 2, [])
-- WhirlShafts$Rates.take(LWhirlShafts$Line;)V
def e_36 : q_E := ([[some (.aload_n 0, [], []), some (.aload_n 1, [], []), some (.getfield 26, [4, 6, 0], []), none, none, some (.putfield 32, [6, 0, 0], []), none, none, some (.iconst (0), [], [(0, 0)]), some (.istore_n 2, [], []), some (.iload_n 2, [], []), some (.aload_n 0, [], []), some (.getfield 32, [6, 0, 0], []), none, none, some (.if_icmp .ge (59), [74], [])], [none, none, some (.aload_n 0, [], []), some (.getfield 11, [6, 1, 1], []), none, none, some (.iload_n 2, [], []), some (.aload_n 1, [], []), some (.iload_n 2, [], []), some (.invokevirtual 33, [29, 1, 1, 4], []), none, none, some (.i2l, [], []), some (.lastore, [], []), some (.aload_n 0, [], []), some (.getfield 15, [6, 2, 1], [])], [none, none, some (.iload_n 2, [], []), some (.aload_n 1, [], []), some (.iload_n 2, [], []), some (.invokevirtual 37, [32, 1, 1, 4], []), none, none, some (.i2l, [], []), some (.lastore, [], []), some (.aload_n 0, [], []), some (.getfield 18, [6, 3, 1], []), none, none, some (.iload_n 2, [], []), some (.iload_n 2, [], [])], [some (.aload_n 0, [], []), some (.getfield 32, [6, 0, 0], []), none, none, some (.iconst (1), [], [(1, 0)]), some (.isub, [], []), some (.if_icmp .ge (12), [66], []), none, none, some (.aload_n 1, [], []), some (.iload_n 2, [], []), some (.invokevirtual 39, [31, 1, 1, 4], []), none, none, some (.i2l, [], []), some (.goto (4), [67], [])], [none, none, some (.lconst 0, [], []), some (.lastore, [], []), some (.iinc 2 (1), [], [(1, 0)]), none, none, some (.goto (-61), [10], []), none, none, some (.return_, [], [])]], 0, 3, [(10, [0, 1, 2])])
-- WhirlShafts$Rates.belowAll(II)I
def e_37 : q_E := ([[some (.aload_n 0, [], []), some (.iconst (0), [], [(0, 0)]), some (.aload_n 0, [], []), some (.getfield 32, [6, 0, 0], []), none, none, some (.iconst (1), [], [(1, 0)]), some (.isub, [], []), some (.iload_n 1, [], []), some (.iload_n 2, [], []), some (.invokevirtual 42, [38, 4, 1, 6], []), none, none, some (.ireturn, [], [])]], 1, 3, [])
-- WhirlShafts$Rates.belowPart(IIII)I
def e_38 : q_E := ([[some (.iconst (0), [], [(0, 0)]), some (.istore 5, [], []), none, some (.iconst (1), [], [(1, 0)]), some (.istore 6, [], []), none, some (.aload_n 0, [], []), some (.getfield 23, [6, 4, 1], []), none, none, some (.iconst (0), [], [(0, 0)]), some (.aaload, [], []), some (.iconst (0), [], [(0, 0)]), some (.lconst 1, [], []), some (.lastore, [], []), some (.iload_n 1, [], [])], [some (.istore 7, [], []), none, some (.iload 7, [], []), none, some (.iload_n 2, [], []), some (.if_icmp .gt (100), [121], []), none, none, some (.iload 4, [], []), none, some (.i2l, [], []), some (.aload_n 0, [], []), some (.getfield 15, [6, 2, 1], []), none, none, some (.iload 7, [], [])], [none, some (.laload, [], []), some (.lmul, [], []), some (.iload_n 3, [], []), some (.i2l, [], []), some (.aload_n 0, [], []), some (.getfield 11, [6, 1, 1], []), none, none, some (.iload 7, [], []), none, some (.laload, [], []), some (.lmul, [], []), some (.lsub, [], []), some (.lstore 8, [], []), none], [some (.iload 7, [], []), none, some (.iload_n 1, [], []), some (.if_icmp .le (19), [70], []), none, none, some (.iload 4, [], []), none, some (.i2l, [], []), some (.aload_n 0, [], []), some (.getfield 18, [6, 3, 1], []), none, none, some (.iload 7, [], []), none, some (.iconst (1), [], [(1, 0)])], [some (.isub, [], []), some (.laload, [], []), some (.lmul, [], []), some (.goto (4), [71], []), none, none, some (.lconst 0, [], []), some (.lstore 10, [], []), none, some (.aload_n 0, [], []), some (.iload 7, [], []), none, some (.iload_n 1, [], []), some (.isub, [], []), some (.lload 8, [], []), none], [some (.lload 10, [], []), none, some (.lload 10, [], []), none, some (.lmul, [], []), some (.invokevirtual 46, [39, 3, 0, 6], []), none, none, some (.aload_n 0, [], []), some (.iload 7, [], []), none, some (.iload_n 1, [], []), some (.isub, [], []), some (.iconst (1), [], [(1, 0)]), some (.iadd, [], []), some (.invokevirtual 50, [40, 1, 1, 6], [])], [none, none, some (.istore 12, [], []), none, some (.iload 12, [], []), none, some (.iload 6, [], []), none, some (.ineg, [], []), some (.if_icmp .ne (10), [115], []), none, none, some (.iinc 5 (1), [], [(1, 0)]), none, none, some (.iload 12, [], [])], [none, some (.istore 6, [], []), none, some (.iinc 7 (1), [], [(1, 0)]), none, none, some (.goto (-100), [18], []), none, none, some (.iload 5, [], []), none, some (.ireturn, [], [])]], 1, 13, [(18, [0, 1, 2, 3, 4, 5, 6, 7]), (71, [0, 1, 2, 3, 4, 5, 6, 7, 8])])
-- WhirlShafts$Rates.addRow(IJJ)V
def e_39 : q_E := ([[some (.aload_n 0, [], []), some (.getfield 23, [6, 4, 1], []), none, none, some (.iload_n 1, [], []), some (.aaload, [], []), some (.astore 6, [], []), none, some (.aload_n 0, [], []), some (.getfield 23, [6, 4, 1], []), none, none, some (.iload_n 1, [], []), some (.ifCond .le (9), [22], []), none, none], [some (.iload_n 1, [], []), some (.iconst (1), [], [(1, 0)]), some (.isub, [], []), some (.goto (4), [23], []), none, none, some (.iconst (0), [], [(0, 0)]), some (.aaload, [], []), some (.astore 7, [], []), none, some (.aload_n 0, [], []), some (.getfield 23, [6, 4, 1], []), none, none, some (.iload_n 1, [], []), some (.iconst (1), [], [(1, 0)])], [some (.iadd, [], []), some (.aaload, [], []), some (.astore 8, [], []), none, some (.lconst 0, [], []), some (.lstore 9, [], []), none, some (.iconst (0), [], [(0, 0)]), some (.istore 11, [], []), none, some (.iload 11, [], []), none, some (.iload_n 1, [], []), some (.if_icmp .gt (48), [93], []), none, none], [some (.lload 9, [], []), none, some (.lload_n 2, [], []), some (.aload 6, [], []), none, some (.iload 11, [], []), none, some (.laload, [], []), some (.lmul, [], []), some (.ladd, [], []), some (.lload 4, [], []), none, some (.aload 7, [], []), none, some (.iload 11, [], []), none], [some (.laload, [], []), some (.lmul, [], []), some (.lsub, [], []), some (.lstore 12, [], []), none, some (.aload 8, [], []), none, some (.iload 11, [], []), none, some (.lload 12, [], []), none, some (.ldc2_w 53, [1073741823], []), none, none, some (.land, [], []), some (.lastore, [], [])], [some (.lload 12, [], []), none, some (.bipush (30), [], [(30, 0)]), none, some (.lshr, [], []), some (.lstore 9, [], []), none, some (.iinc 11 (1), [], [(1, 0)]), none, none, some (.goto (-48), [42], []), none, none, some (.aload 8, [], []), none, some (.iload_n 1, [], [])], [some (.iconst (1), [], [(1, 0)]), some (.iadd, [], []), some (.lload 9, [], []), none, some (.lastore, [], []), some (.return_, [], [])]], 0, 14, [(23, [0, 1, 2, 4, 6]), (42, [1, 2, 4, 6, 7, 8, 9, 11])])
-- WhirlShafts$Rates.signOfRow(I)I
def e_40 : q_E := ([[some (.aload_n 0, [], []), some (.getfield 23, [6, 4, 1], []), none, none, some (.iload_n 1, [], []), some (.aaload, [], []), some (.astore_n 2, [], []), some (.aload_n 2, [], []), some (.iload_n 1, [], []), some (.laload, [], []), some (.lconst 0, [], []), some (.lcmp, [], []), some (.ifCond .ge (5), [17], []), none, none, some (.iconst (-1), [], [(-1, 0)])], [some (.ireturn, [], []), some (.iconst (0), [], [(0, 0)]), some (.istore_n 3, [], []), some (.iload_n 3, [], []), some (.iload_n 1, [], []), some (.if_icmp .gt (19), [40], []), none, none, some (.aload_n 2, [], []), some (.iload_n 3, [], []), some (.laload, [], []), some (.lconst 0, [], []), some (.lcmp, [], []), some (.ifCond .eq (5), [34], []), none, none], [some (.iconst (1), [], [(1, 0)]), some (.ireturn, [], []), some (.iinc 3 (1), [], [(1, 0)]), none, none, some (.goto (-18), [19], []), none, none, some (.iconst (0), [], [(0, 0)]), some (.ireturn, [], [])]], 1, 4, [(19, [1, 2, 3])])
-- WhirlShafts$Rates.restOfRow(I)I
def e_41 : q_E := ([[some (.lconst 0, [], []), some (.lstore_n 2, [], []), some (.iload_n 1, [], []), some (.istore 4, [], []), none, some (.iload 4, [], []), none, some (.ifCond .lt (30), [37], []), none, none, some (.lload_n 2, [], []), some (.bipush (30), [], [(30, 0)]), none, some (.lshl, [], []), some (.aload_n 0, [], []), some (.getfield 23, [6, 4, 1], [])], [none, none, some (.iload_n 1, [], []), some (.aaload, [], []), some (.iload 4, [], []), none, some (.laload, [], []), some (.ladd, [], []), some (.ldc2_w 55, [10007], []), none, none, some (.invokestatic 57, [209, 2, 3], []), none, none, some (.lstore_n 2, [], []), some (.iinc 4 (-1), [], [(-1, 0)])], [none, none, some (.goto (-29), [5], []), none, none, some (.lload_n 2, [], []), some (.l2i, [], []), some (.ireturn, [], [])]], 1, 5, [(5, [0, 1, 2, 4])])
-- WhirlShafts$Rates.highest()I
def e_42 : q_E := ([[some (.aload_n 0, [], []), some (.getfield 32, [6, 0, 0], []), none, none, some (.ifCond .ne (5), [9], []), none, none, some (.iconst (0), [], [(0, 0)]), some (.ireturn, [], []), some (.lconst 0, [], []), some (.lstore_n 1, [], []), some (.iconst (0), [], [(0, 0)]), some (.istore_n 3, [], []), some (.iload_n 3, [], []), some (.aload_n 0, [], []), some (.getfield 32, [6, 0, 0], [])], [none, none, some (.if_icmp .ge (42), [60], []), none, none, some (.aload_n 0, [], []), some (.getfield 11, [6, 1, 1], []), none, none, some (.iload_n 3, [], []), some (.laload, [], []), some (.lconst 0, [], []), some (.lcmp, [], []), some (.ifCond .le (25), [54], []), none, none], [some (.lload_n 1, [], []), some (.ldc2_w 63, [2], []), none, none, some (.aload_n 0, [], []), some (.getfield 15, [6, 2, 1], []), none, none, some (.iload_n 3, [], []), some (.laload, [], []), some (.lmul, [], []), some (.aload_n 0, [], []), some (.getfield 11, [6, 1, 1], []), none, none, some (.iload_n 3, [], [])], [some (.laload, [], []), some (.ldiv, [], []), some (.invokestatic 65, [210, 2, 3], []), none, none, some (.lstore_n 1, [], []), some (.iinc 3 (1), [], [(1, 0)]), none, none, some (.goto (-44), [13], []), none, none, some (.lconst 1, [], []), some (.lload_n 1, [], []), some (.ladd, [], []), some (.l2i, [], [])], [some (.ireturn, [], [])]], 1, 4, [(13, [0, 1, 3])])
-- WhirlShafts$Rates.fenceOf(II)I
def e_43 : q_E := ([[some (.aload_n 0, [], []), some (.invokevirtual 68, [42, 0, 1, 6], []), none, none, some (.iload_n 2, [], []), some (.imul, [], []), some (.istore_n 3, [], []), some (.iconst (0), [], [(0, 0)]), some (.istore 4, [], []), none, some (.sipush (8192), [], [(8192, 0)]), none, none, some (.istore 5, [], []), none, some (.iload 5, [], [])], [none, some (.ifCond .le (42), [59], []), none, none, some (.iload 4, [], []), none, some (.iload 5, [], []), none, some (.iadd, [], []), some (.iload_n 3, [], []), some (.if_icmp .gt (24), [50], []), none, none, some (.aload_n 0, [], []), some (.iload 4, [], []), none], [some (.iload 5, [], []), none, some (.iadd, [], []), some (.iload_n 2, [], []), some (.invokevirtual 72, [37, 2, 1, 6], []), none, none, some (.iload_n 1, [], []), some (.if_icmp .gt (10), [50], []), none, none, some (.iload 4, [], []), none, some (.iload 5, [], []), none, some (.iadd, [], [])], [some (.istore 4, [], []), none, some (.iload 5, [], []), none, some (.iconst (1), [], [(1, 0)]), some (.ishr, [], []), some (.istore 5, [], []), none, some (.goto (-41), [15], []), none, none, some (.iload 4, [], []), none, some (.ireturn, [], [])]], 1, 6, [(15, [0, 1, 2, 3, 4, 5])])
-- WhirlShafts$Rates.fenceIs(IIJ)Z
def e_44 : q_E := ([[some (.lload_n 3, [], []), some (.lconst 0, [], []), some (.lcmp, [], []), some (.ifCond .lt (11), [14], []), none, none, some (.lload_n 3, [], []), some (.ldc2_w 76, [9999], []), none, none, some (.lcmp, [], []), some (.ifCond .le (5), [16], []), none, none, some (.iconst (0), [], [(0, 0)]), some (.ireturn, [], [])], [some (.aload_n 0, [], []), some (.lload_n 3, [], []), some (.l2i, [], []), some (.iload_n 2, [], []), some (.invokevirtual 72, [37, 2, 1, 6], []), none, none, some (.iload_n 1, [], []), some (.if_icmp .gt (20), [44], []), none, none, some (.aload_n 0, [], []), some (.lload_n 3, [], []), some (.l2i, [], []), some (.iconst (1), [], [(1, 0)]), some (.iadd, [], [])], [some (.iload_n 2, [], []), some (.invokevirtual 72, [37, 2, 1, 6], []), none, none, some (.iload_n 1, [], []), some (.if_icmp .le (7), [44], []), none, none, some (.iconst (1), [], [(1, 0)]), some (.goto (4), [45], []), none, none, some (.iconst (0), [], [(0, 0)]), some (.ireturn, [], [])]], 2, 5, [])
-- WhirlShafts$Rates.between(III)I
def e_45 : q_E := ([[some (.aload_n 0, [], []), some (.iload_n 2, [], []), some (.iload_n 3, [], []), some (.invokevirtual 72, [37, 2, 1, 6], []), none, none, some (.aload_n 0, [], []), some (.iload_n 1, [], []), some (.iload_n 3, [], []), some (.invokevirtual 72, [37, 2, 1, 6], []), none, none, some (.isub, [], []), some (.ireturn, [], [])]], 1, 4, [])
-- WhirlShafts$Rim.weighs(II)I
def e_46 : q_E := ([[some (.iload_n 1, [], []), some (.iconst (2), [], [(2, 0)]), some (.imul, [], []), some (.ireturn, [], [])]], 1, 3, [])
-- WhirlShafts$Rim.swings(I)I
def e_47 : q_E := ([[some (.aload_n 0, [], []), some (.bipush (20), [], [(20, 0)]), none, some (.invokevirtual 7, [1, 1, 0, 7, 0], []), none, none, some (.aload_n 0, [], []), some (.iload_n 1, [], []), some (.invokespecial 13, [12, 1, 1, 7], []), none, none, some (.iconst (3), [], [(3, 0)]), some (.ixor, [], []), some (.ireturn, [], [])]], 1, 2, [])
-- WhirlShafts$Row.isMissing()Z
def e_48 : q_E := ([[some (.aload_n 0, [], []), some (.getfield 15, [8, 1, 0], []), none, none, some (.iconst (-1), [], [(-1, 0)]), some (.if_icmp .ne (7), [12], []), none, none, some (.iconst (1), [], [(1, 0)]), some (.goto (4), [13], []), none, none, some (.iconst (0), [], [(0, 0)]), some (.ireturn, [], [])]], 2, 1, [])
-- WhirlShafts$Row.become(II)V
def e_49 : q_E := ([[some (.aload_n 0, [], []), some (.iload_n 1, [], []), some (.putfield 15, [8, 1, 0], []), none, none, some (.aload_n 0, [], []), some (.iload_n 2, [], []), some (.putfield 19, [8, 2, 0], []), none, none, some (.iconst (0), [], [(0, 0)]), some (.istore_n 3, [], []), some (.iload_n 3, [], []), some (.bipush (40), [], [(40, 0)]), none, some (.if_icmp .ge (16), [31], [])], [none, none, some (.aload_n 0, [], []), some (.getfield 9, [8, 0, 1], []), none, none, some (.iload_n 3, [], []), some (.lconst 0, [], []), some (.lastore, [], []), some (.iinc 3 (1), [], [(1, 0)]), none, none, some (.goto (-16), [12], []), none, none, some (.return_, [], [])]], 0, 4, [(12, [0, 3])])
-- WhirlShafts$Row.hasPlace(I)Z
def e_50 : q_E := ([[some (.iload_n 1, [], []), some (.ifCond .lt (15), [16], []), none, none, some (.iload_n 1, [], []), some (.aload_n 0, [], []), some (.getfield 19, [8, 2, 0], []), none, none, some (.if_icmp .ge (7), [16], []), none, none, some (.iconst (1), [], [(1, 0)]), some (.goto (4), [17], []), none, none], [some (.iconst (0), [], [(0, 0)]), some (.ireturn, [], [])]], 2, 2, [])
-- WhirlShafts$Row.hasSpan(II)Z
def e_51 : q_E := ([[some (.iload_n 2, [], []), some (.ifCond .lt (29), [30], []), none, none, some (.iload_n 1, [], []), some (.ifCond .lt (25), [30], []), none, none, some (.iload_n 2, [], []), some (.aload_n 0, [], []), some (.getfield 19, [8, 2, 0], []), none, none, some (.if_icmp .gt (17), [30], []), none, none], [some (.iload_n 1, [], []), some (.aload_n 0, [], []), some (.getfield 19, [8, 2, 0], []), none, none, some (.iload_n 2, [], []), some (.isub, [], []), some (.if_icmp .gt (7), [30], []), none, none, some (.iconst (1), [], [(1, 0)]), some (.goto (4), [31], []), none, none, some (.iconst (0), [], [(0, 0)]), some (.ireturn, [], [])]], 2, 3, [])
-- WhirlShafts$Row.store(IJ)V
def e_52 : q_E := ([[some (.aload_n 0, [], []), some (.getfield 15, [8, 1, 0], []), none, none, some (.ifCond .ne (16), [20], []), none, none, some (.aload_n 0, [], []), some (.getfield 9, [8, 0, 1], []), none, none, some (.iload_n 1, [], []), some (.lload_n 2, [], []), some (.l2i, [], []), some (.i2b, [], []), some (.i2l, [], [])], [some (.lastore, [], []), some (.goto (30), [47], []), none, none, some (.aload_n 0, [], []), some (.getfield 15, [8, 1, 0], []), none, none, some (.iconst (1), [], [(1, 0)]), some (.if_icmp .ne (15), [40], []), none, none, some (.aload_n 0, [], []), some (.getfield 9, [8, 0, 1], []), none, none], [some (.iload_n 1, [], []), some (.lload_n 2, [], []), some (.l2i, [], []), some (.i2l, [], []), some (.lastore, [], []), some (.goto (10), [47], []), none, none, some (.aload_n 0, [], []), some (.getfield 9, [8, 0, 1], []), none, none, some (.iload_n 1, [], []), some (.lload_n 2, [], []), some (.lastore, [], []), some (.return_, [], [])]], 0, 4, [])
-- WhirlShafts$Shell.weighs(II)I
def e_53 : q_E := ([[some (.iconst (1), [], [(1, 0)]), some (.aload_n 0, [], []), some (.iload_n 1, [], []), some (.iload_n 2, [], []), some (.invokespecial 7, [14, 2, 1, 9], []), none, none, some (.iload_n 2, [], []), some (.iconst (2), [], [(2, 0)]), some (.idiv, [], []), some (.isub, [], []), some (.invokestatic 11, [208, 2, 1], []), none, none, some (.ireturn, [], [])]], 1, 3, [])
-- WhirlShafts$Shell.swings(I)I
def e_54 : q_E := ([[some (.aload_n 0, [], []), some (.bipush (50), [], [(50, 0)]), none, some (.invokevirtual 16, [1, 1, 0, 9, 0], []), none, none, some (.aload_n 0, [], []), some (.iload_n 1, [], []), some (.invokespecial 22, [12, 1, 1, 9], []), none, none, some (.aload_n 0, [], []), some (.iconst (2), [], [(2, 0)]), some (.invokevirtual 26, [3, 1, 1, 9, 0], []), none, none], [some (.iadd, [], []), some (.ireturn, [], [])]], 1, 2, [])
-- WhirlShafts$Tape.add(I)I
def e_55 : q_E := ([[some (.aload_n 0, [], []), some (.getfield 9, [10, 0, 1], []), none, none, some (.aload_n 0, [], []), some (.getfield 18, [10, 1, 0], []), none, none, some (.iload_n 1, [], []), some (.iastore, [], []), some (.aload_n 0, [], []), some (.dup, [], []), some (.getfield 18, [10, 1, 0], []), none, none, some (.iconst (1), [], [(1, 0)])], [some (.iadd, [], []), some (.putfield 18, [10, 1, 0], []), none, none, some (.aload_n 0, [], []), some (.getfield 18, [10, 1, 0], []), none, none, some (.ireturn, [], [])]], 1, 2, [])
-- WhirlShafts$Tape.numbersBehind(I)I
def e_56 : q_E := ([[some (.iload_n 0, [], []), some (.tableswitch (115) (98) (120) #[109, 115, 107, 115, 115, 109, 115, 109, 115, 109, 115, 115, 111, 115, 115, 115, 115, 115, 115, 115, 115, 111, 113], [116], [(98, 110), (99, 116), (100, 108), (101, 116), (102, 116), (103, 110), (104, 116), (105, 110), (106, 116), (107, 110), (108, 116), (109, 116), (110, 112), (111, 116), (112, 116), (113, 116), (114, 116), (115, 116), (116, 116), (117, 116), (118, 116), (119, 112), (120, 114)]), none, none, none, none, none, none, none, none, none, none, none, none, none, none], [none, none, none, none, none, none, none, none, none, none, none, none, none, none, none, none], [none, none, none, none, none, none, none, none, none, none, none, none, none, none, none, none], [none, none, none, none, none, none, none, none, none, none, none, none, none, none, none, none], [none, none, none, none, none, none, none, none, none, none, none, none, none, none, none, none], [none, none, none, none, none, none, none, none, none, none, none, none, none, none, none, none], [none, none, none, none, none, none, none, none, none, none, none, none, some (.iconst (3), [], [(3, 0)]), some (.ireturn, [], []), some (.iconst (2), [], [(2, 0)]), some (.ireturn, [], [])], [some (.iconst (1), [], [(1, 0)]), some (.ireturn, [], []), some (.iconst (0), [], [(0, 0)]), some (.ireturn, [], []), some (.iconst (-1), [], [(-1, 0)]), some (.ireturn, [], [])]], 1, 1, [])
-- WhirlShafts$Tape.isFigure(I)Z
def e_57 : q_E := ([[some (.iload_n 0, [], []), some (.bipush (48), [], [(48, 0)]), none, some (.if_icmp .lt (13), [16], []), none, none, some (.iload_n 0, [], []), some (.bipush (57), [], [(57, 0)]), none, some (.if_icmp .gt (7), [16], []), none, none, some (.iconst (1), [], [(1, 0)]), some (.goto (4), [17], []), none, none], [some (.iconst (0), [], [(0, 0)]), some (.ireturn, [], [])]], 2, 1, [])
-- WhirlShafts$Tape.fault()I
def e_58 : q_E := ([[some (.iconst (0), [], [(0, 0)]), some (.istore_n 1, [], []), some (.iconst (0), [], [(0, 0)]), some (.istore_n 2, [], []), some (.iconst (0), [], [(0, 0)]), some (.istore_n 3, [], []), some (.iload_n 3, [], []), some (.aload_n 0, [], []), some (.getfield 18, [10, 1, 0], []), none, none, some (.if_icmp .ge (118), [129], []), none, none, some (.aload_n 0, [], []), some (.getfield 9, [10, 0, 1], [])], [none, none, some (.iload_n 3, [], []), some (.iaload, [], []), some (.istore 4, [], []), none, some (.iload_n 1, [], []), some (.ifCond .ne (28), [51], []), none, none, some (.iload 4, [], []), none, some (.invokestatic 22, [56, 1, 1], []), none, none, some (.istore_n 2, [], [])], [some (.iload_n 2, [], []), some (.ifCond .ge (5), [38], []), none, none, some (.iload_n 3, [], []), some (.ireturn, [], []), some (.iload_n 2, [], []), some (.ifCond .ne (7), [46], []), none, none, some (.iconst (3), [], [(3, 0)]), some (.goto (4), [47], []), none, none, some (.iconst (1), [], [(1, 0)]), some (.istore_n 1, [], [])], [some (.goto (75), [123], []), none, none, some (.iload_n 1, [], []), some (.iconst (1), [], [(1, 0)]), some (.if_icmp .ne (21), [74], []), none, none, some (.iload 4, [], []), none, some (.invokestatic 26, [57, 1, 1], []), none, none, some (.ifCond .ne (5), [66], []), none, none], [some (.iload_n 3, [], []), some (.ireturn, [], []), some (.iinc 2 (-1), [], [(-1, 0)]), none, none, some (.iconst (2), [], [(2, 0)]), some (.istore_n 1, [], []), some (.goto (52), [123], []), none, none, some (.iload_n 1, [], []), some (.iconst (2), [], [(2, 0)]), some (.if_icmp .ne (16), [92], []), none, none, some (.iload 4, [], [])], [none, some (.invokestatic 26, [57, 1, 1], []), none, none, some (.ifCond .eq (8), [92], []), none, none, some (.iconst (3), [], [(3, 0)]), some (.istore_n 1, [], []), some (.goto (34), [123], []), none, none, some (.iload 4, [], []), none, some (.iload_n 2, [], []), some (.ifCond .le (8), [103], [])], [none, none, some (.bipush (44), [], [(44, 0)]), none, some (.goto (5), [105], []), none, none, some (.bipush (59), [], [(59, 0)]), none, some (.if_icmp .ne (16), [121], []), none, none, some (.iload_n 2, [], []), some (.ifCond .le (7), [116], []), none, none], [some (.iconst (1), [], [(1, 0)]), some (.goto (4), [117], []), none, none, some (.iconst (0), [], [(0, 0)]), some (.istore_n 1, [], []), some (.goto (5), [123], []), none, none, some (.iload_n 3, [], []), some (.ireturn, [], []), some (.iinc 3 (1), [], [(1, 0)]), none, none, some (.goto (-120), [6], []), none], [none, some (.iload_n 1, [], []), some (.iconst (2), [], [(2, 0)]), some (.if_icmp .lt (11), [142], []), none, none, some (.iload_n 2, [], []), some (.ifCond .ne (7), [142], []), none, none, some (.iconst (1), [], [(1, 0)]), some (.goto (4), [143], []), none, none, some (.iconst (0), [], [(0, 0)]), some (.istore_n 3, [], [])], [some (.iload_n 3, [], []), some (.ifCond .eq (7), [152], []), none, none, some (.iconst (-1), [], [(-1, 0)]), some (.goto (7), [156], []), none, none, some (.aload_n 0, [], []), some (.getfield 18, [10, 1, 0], []), none, none, some (.ireturn, [], [])]], 1, 5, [(6, [0, 1, 2, 3]), (92, [0, 2, 3, 4])])
-- WhirlShafts$Tape.nextAct()I
def e_59 : q_E := ([[some (.aload_n 0, [], []), some (.getfield 9, [10, 0, 1], []), none, none, some (.aload_n 0, [], []), some (.getfield 30, [10, 2, 0], []), none, none, some (.iaload, [], []), some (.istore_n 1, [], []), some (.iload_n 1, [], []), some (.invokestatic 22, [56, 1, 1], []), none, none, some (.istore_n 2, [], []), some (.aload_n 0, [], [])], [some (.dup, [], []), some (.getfield 30, [10, 2, 0], []), none, none, some (.iconst (1), [], [(1, 0)]), some (.iadd, [], []), some (.putfield 30, [10, 2, 0], []), none, none, some (.iconst (0), [], [(0, 0)]), some (.istore_n 3, [], []), some (.iload_n 3, [], []), some (.iload_n 2, [], []), some (.if_icmp .ge (28), [57], []), none, none], [some (.iload_n 3, [], []), some (.aload_n 0, [], []), some (.getfield 15, [10, 3, 1], []), none, none, some (.arraylength, [], []), some (.if_icmp .ge (19), [57], []), none, none, some (.aload_n 0, [], []), some (.getfield 15, [10, 3, 1], []), none, none, some (.iload_n 3, [], []), some (.aload_n 0, [], []), some (.invokevirtual 33, [60, 0, 1, 10], [])], [none, none, some (.iastore, [], []), some (.iinc 3 (1), [], [(1, 0)]), none, none, some (.goto (-27), [27], []), none, none, some (.iload_n 2, [], []), some (.ifCond .ne (13), [71], []), none, none, some (.aload_n 0, [], []), some (.dup, [], []), some (.getfield 30, [10, 2, 0], [])], [none, none, some (.iconst (1), [], [(1, 0)]), some (.iadd, [], []), some (.putfield 30, [10, 2, 0], []), none, none, some (.iload_n 1, [], []), some (.ireturn, [], [])]], 1, 4, [(27, [0, 1, 2, 3]), (57, [0, 1, 2])])
-- WhirlShafts$Tape.nextNumber()I
def e_60 : q_E := ([[some (.iconst (0), [], [(0, 0)]), some (.istore_n 1, [], []), some (.aload_n 0, [], []), some (.getfield 30, [10, 2, 0], []), none, none, some (.aload_n 0, [], []), some (.getfield 18, [10, 1, 0], []), none, none, some (.if_icmp .ge (49), [59], []), none, none, some (.aload_n 0, [], []), some (.getfield 9, [10, 0, 1], []), none], [none, some (.aload_n 0, [], []), some (.getfield 30, [10, 2, 0], []), none, none, some (.iaload, [], []), some (.invokestatic 26, [57, 1, 1], []), none, none, some (.ifCond .eq (34), [59], []), none, none, some (.iload_n 1, [], []), some (.bipush (10), [], [(10, 0)]), none, some (.imul, [], [])], [some (.aload_n 0, [], []), some (.getfield 9, [10, 0, 1], []), none, none, some (.aload_n 0, [], []), some (.getfield 30, [10, 2, 0], []), none, none, some (.iaload, [], []), some (.iadd, [], []), some (.bipush (48), [], [(48, 0)]), none, some (.isub, [], []), some (.istore_n 1, [], []), some (.aload_n 0, [], []), some (.dup, [], [])], [some (.getfield 30, [10, 2, 0], []), none, none, some (.iconst (1), [], [(1, 0)]), some (.iadd, [], []), some (.putfield 30, [10, 2, 0], []), none, none, some (.goto (-54), [2], []), none, none, some (.aload_n 0, [], []), some (.dup, [], []), some (.getfield 30, [10, 2, 0], []), none, none], [some (.iconst (1), [], [(1, 0)]), some (.iadd, [], []), some (.putfield 30, [10, 2, 0], []), none, none, some (.iload_n 1, [], []), some (.ireturn, [], [])]], 1, 2, [(2, [0, 1])])
-- WhirlShafts.disc(III)I
def e_61 : q_E := ([[some (.iload_n 1, [], []), some (.invokestatic 87, [104, 1, 1], []), none, none, some (.ifCond .eq (11), [15], []), none, none, some (.iconst (0), [], [(0, 0)]), some (.iload_n 2, [], []), some (.invokestatic 91, [105, 2, 1], []), none, none, some (.ifCond .ne (5), [17], []), none, none, some (.iconst (-1), [], [(-1, 0)])], [some (.ireturn, [], []), some (.aload_n 0, [], []), some (.getfield 39, [11, 2, 1], []), none, none, some (.getfield 95, [4, 6, 0], []), none, none, some (.ifCond .le (13), [37], []), none, none, some (.iconst (1), [], [(1, 0)]), some (.iload_n 3, [], []), some (.invokestatic 91, [105, 2, 1], []), none, none], [some (.ifCond .ne (5), [37], []), none, none, some (.iconst (-1), [], [(-1, 0)]), some (.ireturn, [], []), some (.aload_n 0, [], []), some (.getfield 39, [11, 2, 1], []), none, none, some (.getfield 95, [4, 6, 0], []), none, none, some (.bipush (8), [], [(8, 0)]), none, some (.if_icmp .lt (6), [52], []), none], [none, some (.bipush (-3), [], [(-3, 0)]), none, some (.ireturn, [], []), some (.aload_n 0, [], []), some (.getfield 62, [11, 8, 1], []), none, none, some (.invokevirtual 99, [0, 0, 0, 0], []), none, none, some (.aload_n 0, [], []), some (.getfield 39, [11, 2, 1], []), none, none, some (.iload_n 1, [], [])], [some (.iload_n 2, [], []), some (.iload_n 3, [], []), some (.invokevirtual 102, [17, 3, 1, 4], []), none, none, some (.ireturn, [], [])]], 1, 4, [(37, [0, 1, 2, 3])])
-- WhirlShafts.cut()I
def e_62 : q_E := ([[some (.aload_n 0, [], []), some (.getfield 39, [11, 2, 1], []), none, none, some (.getfield 95, [4, 6, 0], []), none, none, some (.ifCond .ne (6), [13], []), none, none, some (.bipush (-5), [], [(-5, 0)]), none, some (.ireturn, [], []), some (.aload_n 0, [], []), some (.getfield 62, [11, 8, 1], []), none], [none, some (.invokevirtual 99, [0, 0, 0, 0], []), none, none, some (.aload_n 0, [], []), some (.getfield 39, [11, 2, 1], []), none, none, some (.dup, [], []), some (.getfield 95, [4, 6, 0], []), none, none, some (.iconst (1), [], [(1, 0)]), some (.isub, [], []), some (.putfield 95, [4, 6, 0], []), none], [none, some (.aload_n 0, [], []), some (.getfield 39, [11, 2, 1], []), none, none, some (.getfield 95, [4, 6, 0], []), none, none, some (.ireturn, [], [])]], 1, 1, [])
-- WhirlShafts.clear()I
def e_63 : q_E := ([[some (.aload_n 0, [], []), some (.getfield 39, [11, 2, 1], []), none, none, some (.getfield 95, [4, 6, 0], []), none, none, some (.istore_n 1, [], []), some (.aload_n 0, [], []), some (.getfield 62, [11, 8, 1], []), none, none, some (.invokevirtual 99, [0, 0, 0, 0], []), none, none, some (.aload_n 0, [], [])], [some (.getfield 39, [11, 2, 1], []), none, none, some (.iconst (0), [], [(0, 0)]), some (.putfield 95, [4, 6, 0], []), none, none, some (.aload_n 0, [], []), some (.getfield 39, [11, 2, 1], []), none, none, some (.iconst (0), [], [(0, 0)]), some (.putfield 106, [4, 7, 0], []), none, none, some (.aload_n 0, [], [])], [some (.getfield 39, [11, 2, 1], []), none, none, some (.iconst (0), [], [(0, 0)]), some (.putfield 109, [4, 8, 0], []), none, none, some (.iload_n 1, [], []), some (.ireturn, [], [])]], 1, 2, [])
-- WhirlShafts.set(III)I
def e_64 : q_E := ([[some (.aload_n 0, [], []), some (.getfield 39, [11, 2, 1], []), none, none, some (.iload_n 1, [], []), some (.iload_n 2, [], []), some (.iload_n 3, [], []), some (.invokevirtual 112, [22, 3, 1, 4], []), none, none, some (.istore 4, [], []), none, some (.iload 4, [], []), none, some (.ifCond .eq (6), [20], []), none], [none, some (.iload 4, [], []), none, some (.ireturn, [], []), some (.aload_n 0, [], []), some (.getfield 39, [11, 2, 1], []), none, none, some (.iload_n 1, [], []), some (.iload_n 2, [], []), some (.invokevirtual 115, [23, 2, 1, 4], []), none, none, some (.istore 5, [], []), none, some (.iload 5, [], [])], [none, some (.iload_n 3, [], []), some (.if_icmp .eq (25), [59], []), none, none, some (.aload_n 0, [], []), some (.getfield 39, [11, 2, 1], []), none, none, some (.iload_n 1, [], []), some (.iload_n 2, [], []), some (.iload_n 3, [], []), some (.invokevirtual 119, [24, 3, 0, 4], []), none, none, some (.aload_n 0, [], [])], [some (.getfield 62, [11, 8, 1], []), none, none, some (.iload_n 1, [], []), some (.iload_n 2, [], []), some (.iload 5, [], []), none, some (.iload_n 3, [], []), some (.invokevirtual 123, [1, 4, 0, 0], []), none, none, some (.iload 5, [], []), none, some (.ireturn, [], [])]], 1, 6, [])
-- WhirlShafts.of(II)I
def e_65 : q_E := ([[some (.iload_n 1, [], []), some (.iconst (5), [], [(5, 0)]), some (.if_icmp .gt (29), [31], []), none, none, some (.aload_n 0, [], []), some (.getfield 39, [11, 2, 1], []), none, none, some (.iload_n 1, [], []), some (.iload_n 2, [], []), some (.invokevirtual 127, [21, 2, 1, 4], []), none, none, some (.ifCond .eq (15), [29], []), none], [none, some (.aload_n 0, [], []), some (.getfield 39, [11, 2, 1], []), none, none, some (.iload_n 1, [], []), some (.iload_n 2, [], []), some (.invokevirtual 115, [23, 2, 1, 4], []), none, none, some (.goto (4), [30], []), none, none, some (.iconst (-1), [], [(-1, 0)]), some (.ireturn, [], []), some (.iload_n 1, [], [])], [some (.bipush (12), [], [(12, 0)]), none, some (.if_icmp .ne (27), [61], []), none, none, some (.aload_n 0, [], []), some (.getfield 39, [11, 2, 1], []), none, none, some (.iload_n 2, [], []), some (.invokevirtual 130, [20, 1, 1, 4], []), none, none, some (.ifCond .eq (14), [59], []), none, none], [some (.aload_n 0, [], []), some (.getfield 39, [11, 2, 1], []), none, none, some (.iload_n 2, [], []), some (.invokevirtual 133, [31, 1, 1, 4], []), none, none, some (.goto (4), [60], []), none, none, some (.iconst (-1), [], [(-1, 0)]), some (.ireturn, [], []), some (.aload_n 0, [], []), some (.getfield 39, [11, 2, 1], []), none], [none, some (.iload_n 2, [], []), some (.invokevirtual 137, [19, 1, 1, 4], []), none, none, some (.ifCond .ne (5), [74], []), none, none, some (.iconst (-1), [], [(-1, 0)]), some (.ireturn, [], []), some (.iload_n 1, [], []), some (.tableswitch (92) (6) (11) #[37, 47, 56, 65, 74, 83], [167], [(6, 112), (7, 122), (8, 131), (9, 140), (10, 149), (11, 158)]), none, none, none, none], [none, none, none, none, none, none, none, none, none, none, none, none, none, none, none, none], [none, none, none, none, none, none, none, none, none, none, none, none, none, none, none, none], [some (.aload_n 0, [], []), some (.getfield 39, [11, 2, 1], []), none, none, some (.getfield 140, [4, 1, 1], []), none, none, some (.iload_n 2, [], []), some (.iaload, [], []), some (.ireturn, [], []), some (.aload_n 0, [], []), some (.getfield 39, [11, 2, 1], []), none, none, some (.iload_n 2, [], []), some (.invokevirtual 143, [28, 1, 1, 4], [])], [none, none, some (.ireturn, [], []), some (.aload_n 0, [], []), some (.getfield 39, [11, 2, 1], []), none, none, some (.iload_n 2, [], []), some (.invokevirtual 146, [29, 1, 1, 4], []), none, none, some (.ireturn, [], []), some (.aload_n 0, [], []), some (.getfield 39, [11, 2, 1], []), none, none], [some (.iload_n 2, [], []), some (.invokevirtual 149, [30, 1, 1, 4], []), none, none, some (.ireturn, [], []), some (.aload_n 0, [], []), some (.getfield 39, [11, 2, 1], []), none, none, some (.iload_n 2, [], []), some (.invokevirtual 152, [27, 1, 1, 4], []), none, none, some (.ireturn, [], []), some (.aload_n 0, [], []), some (.getfield 39, [11, 2, 1], [])], [none, none, some (.iload_n 2, [], []), some (.invokevirtual 155, [32, 1, 1, 4], []), none, none, some (.ireturn, [], []), some (.iconst (-1), [], [(-1, 0)]), some (.ireturn, [], [])]], 1, 3, [])
-- WhirlShafts.below(II)I
def e_66 : q_E := ([[some (.iload_n 1, [], []), some (.iload_n 2, [], []), some (.invokestatic 158, [107, 2, 1], []), none, none, some (.ifCond .ne (5), [10], []), none, none, some (.iconst (-1), [], [(-1, 0)]), some (.ireturn, [], []), some (.aload_n 0, [], []), some (.getfield 69, [11, 9, 1], []), none, none, some (.aload_n 0, [], []), some (.getfield 39, [11, 2, 1], [])], [none, none, some (.invokevirtual 161, [36, 1, 0, 6], []), none, none, some (.aload_n 0, [], []), some (.getfield 69, [11, 9, 1], []), none, none, some (.iload_n 1, [], []), some (.iload_n 2, [], []), some (.invokevirtual 165, [37, 2, 1, 6], []), none, none, some (.ireturn, [], [])]], 1, 3, [])
-- WhirlShafts.isRate(II)I
def e_67 : q_E := ([[some (.iload_n 1, [], []), some (.iload_n 2, [], []), some (.invokestatic 158, [107, 2, 1], []), none, none, some (.ifCond .ne (5), [10], []), none, none, some (.iconst (-1), [], [(-1, 0)]), some (.ireturn, [], []), some (.aload_n 0, [], []), some (.getfield 69, [11, 9, 1], []), none, none, some (.aload_n 0, [], []), some (.getfield 39, [11, 2, 1], [])], [none, none, some (.invokevirtual 161, [36, 1, 0, 6], []), none, none, some (.aload_n 0, [], []), some (.getfield 69, [11, 9, 1], []), none, none, some (.iload_n 1, [], []), some (.iload_n 2, [], []), some (.invokevirtual 165, [37, 2, 1, 6], []), none, none, some (.pop, [], []), some (.aload_n 0, [], [])], [some (.getfield 69, [11, 9, 1], []), none, none, some (.aload_n 0, [], []), some (.getfield 39, [11, 2, 1], []), none, none, some (.getfield 95, [4, 6, 0], []), none, none, some (.invokevirtual 168, [40, 1, 1, 6], []), none, none, some (.ifCond .ne (7), [52], []), none, none], [some (.iconst (1), [], [(1, 0)]), some (.goto (4), [53], []), none, none, some (.iconst (0), [], [(0, 0)]), some (.ireturn, [], [])]], 1, 3, [])
-- WhirlShafts.sign(III)I
def e_68 : q_E := ([[some (.aload_n 0, [], []), some (.getfield 39, [11, 2, 1], []), none, none, some (.iload_n 1, [], []), some (.invokevirtual 137, [19, 1, 1, 4], []), none, none, some (.ifCond .eq (11), [19], []), none, none, some (.iload_n 2, [], []), some (.iload_n 3, [], []), some (.invokestatic 158, [107, 2, 1], []), none, none], [some (.ifCond .ne (7), [23], []), none, none, some (.sipush (-1000), [], [(-1000, 0)]), none, none, some (.ireturn, [], []), some (.aload_n 0, [], []), some (.getfield 69, [11, 9, 1], []), none, none, some (.aload_n 0, [], []), some (.getfield 39, [11, 2, 1], []), none, none, some (.invokevirtual 161, [36, 1, 0, 6], [])], [none, none, some (.aload_n 0, [], []), some (.getfield 69, [11, 9, 1], []), none, none, some (.iconst (0), [], [(0, 0)]), some (.iload_n 1, [], []), some (.iconst (1), [], [(1, 0)]), some (.isub, [], []), some (.iload_n 2, [], []), some (.iload_n 3, [], []), some (.invokevirtual 171, [38, 4, 1, 6], []), none, none, some (.pop, [], [])], [some (.aload_n 0, [], []), some (.getfield 69, [11, 9, 1], []), none, none, some (.iload_n 1, [], []), some (.invokevirtual 168, [40, 1, 1, 6], []), none, none, some (.ireturn, [], [])]], 1, 4, [])
-- WhirlShafts.nodes(II)I
def e_69 : q_E := ([[some (.iload_n 1, [], []), some (.iload_n 2, [], []), some (.invokestatic 158, [107, 2, 1], []), none, none, some (.ifCond .ne (5), [10], []), none, none, some (.iconst (-1), [], [(-1, 0)]), some (.ireturn, [], []), some (.aload_n 0, [], []), some (.getfield 69, [11, 9, 1], []), none, none, some (.aload_n 0, [], []), some (.getfield 39, [11, 2, 1], [])], [none, none, some (.invokevirtual 161, [36, 1, 0, 6], []), none, none, some (.aload_n 0, [], []), some (.getfield 69, [11, 9, 1], []), none, none, some (.iconst (0), [], [(0, 0)]), some (.aload_n 0, [], []), some (.getfield 39, [11, 2, 1], []), none, none, some (.getfield 95, [4, 6, 0], []), none], [none, some (.iconst (2), [], [(2, 0)]), some (.isub, [], []), some (.iload_n 1, [], []), some (.iload_n 2, [], []), some (.invokevirtual 171, [38, 4, 1, 6], []), none, none, some (.ireturn, [], [])]], 1, 3, [])
-- WhirlShafts.rest(III)I
def e_70 : q_E := ([[some (.iload_n 1, [], []), some (.ifCond .lt (22), [23], []), none, none, some (.iload_n 1, [], []), some (.aload_n 0, [], []), some (.getfield 39, [11, 2, 1], []), none, none, some (.getfield 95, [4, 6, 0], []), none, none, some (.if_icmp .gt (11), [23], []), none, none, some (.iload_n 2, [], [])], [some (.iload_n 3, [], []), some (.invokestatic 158, [107, 2, 1], []), none, none, some (.ifCond .ne (5), [25], []), none, none, some (.iconst (-1), [], [(-1, 0)]), some (.ireturn, [], []), some (.aload_n 0, [], []), some (.getfield 69, [11, 9, 1], []), none, none, some (.aload_n 0, [], []), some (.getfield 39, [11, 2, 1], []), none], [none, some (.invokevirtual 161, [36, 1, 0, 6], []), none, none, some (.aload_n 0, [], []), some (.getfield 69, [11, 9, 1], []), none, none, some (.iconst (0), [], [(0, 0)]), some (.iload_n 1, [], []), some (.iconst (1), [], [(1, 0)]), some (.isub, [], []), some (.iload_n 2, [], []), some (.iload_n 3, [], []), some (.invokevirtual 171, [38, 4, 1, 6], []), none], [none, some (.pop, [], []), some (.aload_n 0, [], []), some (.getfield 69, [11, 9, 1], []), none, none, some (.iload_n 1, [], []), some (.invokevirtual 175, [41, 1, 1, 6], []), none, none, some (.ireturn, [], [])]], 1, 4, [])
-- WhirlShafts.top()I
def e_71 : q_E := ([[some (.aload_n 0, [], []), some (.getfield 69, [11, 9, 1], []), none, none, some (.aload_n 0, [], []), some (.getfield 39, [11, 2, 1], []), none, none, some (.invokevirtual 161, [36, 1, 0, 6], []), none, none, some (.aload_n 0, [], []), some (.getfield 69, [11, 9, 1], []), none, none, some (.invokevirtual 178, [42, 0, 1, 6], [])], [none, none, some (.ireturn, [], [])]], 1, 1, [])
-- WhirlShafts.fence(II)I
def e_72 : q_E := ([[some (.aload_n 0, [], []), some (.getfield 39, [11, 2, 1], []), none, none, some (.iload_n 1, [], []), some (.invokevirtual 137, [19, 1, 1, 4], []), none, none, some (.ifCond .eq (10), [18], []), none, none, some (.iload_n 2, [], []), some (.invokestatic 182, [106, 1, 1], []), none, none, some (.ifCond .ne (5), [20], [])], [none, none, some (.iconst (-1), [], [(-1, 0)]), some (.ireturn, [], []), some (.aload_n 0, [], []), some (.aload_n 0, [], []), some (.getfield 39, [11, 2, 1], []), none, none, some (.iload_n 1, [], []), some (.iload_n 2, [], []), some (.invokevirtual 185, [112, 3, 1, 11], []), none, none, some (.ireturn, [], [])]], 1, 3, [])
-- WhirlShafts.held(III)I
def e_73 : q_E := ([[some (.aload_n 0, [], []), some (.getfield 39, [11, 2, 1], []), none, none, some (.iload_n 1, [], []), some (.invokevirtual 137, [19, 1, 1, 4], []), none, none, some (.ifCond .eq (11), [19], []), none, none, some (.iload_n 2, [], []), some (.iload_n 3, [], []), some (.invokestatic 158, [107, 2, 1], []), none, none], [some (.ifCond .ne (5), [21], []), none, none, some (.iconst (-1), [], [(-1, 0)]), some (.ireturn, [], []), some (.aload_n 0, [], []), some (.getfield 69, [11, 9, 1], []), none, none, some (.aload_n 0, [], []), some (.getfield 39, [11, 2, 1], []), none, none, some (.invokevirtual 161, [36, 1, 0, 6], []), none, none], [some (.aload_n 0, [], []), some (.getfield 69, [11, 9, 1], []), none, none, some (.iconst (0), [], [(0, 0)]), some (.iload_n 1, [], []), some (.iconst (1), [], [(1, 0)]), some (.isub, [], []), some (.iload_n 2, [], []), some (.iload_n 3, [], []), some (.invokevirtual 171, [38, 4, 1, 6], []), none, none, some (.aload_n 0, [], []), some (.getfield 69, [11, 9, 1], []), none], [none, some (.iload_n 1, [], []), some (.iconst (1), [], [(1, 0)]), some (.iadd, [], []), some (.aload_n 0, [], []), some (.getfield 39, [11, 2, 1], []), none, none, some (.getfield 95, [4, 6, 0], []), none, none, some (.iconst (1), [], [(1, 0)]), some (.isub, [], []), some (.iload_n 2, [], []), some (.iload_n 3, [], []), some (.invokevirtual 171, [38, 4, 1, 6], [])], [none, none, some (.iadd, [], []), some (.ireturn, [], [])]], 1, 4, [])
-- WhirlShafts.band(III)I
def e_74 : q_E := ([[some (.iload_n 1, [], []), some (.iload_n 2, [], []), some (.iload_n 3, [], []), some (.invokestatic 189, [108, 3, 1], []), none, none, some (.ifCond .ne (5), [11], []), none, none, some (.iconst (-1), [], [(-1, 0)]), some (.ireturn, [], []), some (.aload_n 0, [], []), some (.getfield 69, [11, 9, 1], []), none, none, some (.aload_n 0, [], [])], [some (.getfield 39, [11, 2, 1], []), none, none, some (.invokevirtual 161, [36, 1, 0, 6], []), none, none, some (.aload_n 0, [], []), some (.getfield 69, [11, 9, 1], []), none, none, some (.iload_n 1, [], []), some (.iload_n 2, [], []), some (.iload_n 3, [], []), some (.invokevirtual 193, [45, 3, 1, 6], []), none, none], [some (.ireturn, [], [])]], 1, 4, [])
-- WhirlShafts.gap(II)I
def e_75 : q_E := ([[some (.iload_n 1, [], []), some (.invokestatic 182, [106, 1, 1], []), none, none, some (.ifCond .eq (12), [16], []), none, none, some (.iload_n 2, [], []), some (.ifCond .lt (8), [16], []), none, none, some (.iload_n 2, [], []), some (.iconst (1), [], [(1, 0)]), some (.if_icmp .le (5), [18], []), none, none], [some (.iconst (-1), [], [(-1, 0)]), some (.ireturn, [], []), some (.aload_n 0, [], []), some (.getfield 39, [11, 2, 1], []), none, none, some (.getfield 95, [4, 6, 0], []), none, none, some (.iconst (2), [], [(2, 0)]), some (.if_icmp .ge (6), [32], []), none, none, some (.bipush (-2), [], [(-2, 0)]), none, some (.ireturn, [], [])], [some (.aload_n 0, [], []), some (.getfield 69, [11, 9, 1], []), none, none, some (.aload_n 0, [], []), some (.getfield 39, [11, 2, 1], []), none, none, some (.invokevirtual 161, [36, 1, 0, 6], []), none, none, some (.iconst (0), [], [(0, 0)]), some (.istore_n 3, [], []), some (.iconst (-1), [], [(-1, 0)]), some (.istore 4, [], []), none], [some (.aload_n 0, [], []), some (.getfield 69, [11, 9, 1], []), none, none, some (.iconst (0), [], [(0, 0)]), some (.iload_n 1, [], []), some (.invokevirtual 196, [43, 2, 1, 6], []), none, none, some (.istore 5, [], []), none, some (.iconst (1), [], [(1, 0)]), some (.istore 6, [], []), none, some (.iload 6, [], []), none], [some (.aload_n 0, [], []), some (.getfield 39, [11, 2, 1], []), none, none, some (.getfield 95, [4, 6, 0], []), none, none, some (.if_icmp .ge (47), [118], []), none, none, some (.aload_n 0, [], []), some (.getfield 69, [11, 9, 1], []), none, none, some (.iload 6, [], []), none], [some (.iload_n 1, [], []), some (.invokevirtual 196, [43, 2, 1, 6], []), none, none, some (.istore 7, [], []), none, some (.iload 7, [], []), none, some (.iload 5, [], []), none, some (.isub, [], []), some (.iload 4, [], []), none, some (.if_icmp .le (15), [108], []), none, none], [some (.iload 7, [], []), none, some (.iload 5, [], []), none, some (.isub, [], []), some (.istore 4, [], []), none, some (.iload 6, [], []), none, some (.iconst (1), [], [(1, 0)]), some (.isub, [], []), some (.istore_n 3, [], []), some (.iload 7, [], []), none, some (.istore 5, [], []), none], [some (.iinc 6 (1), [], [(1, 0)]), none, none, some (.goto (-53), [62], []), none, none, some (.iload_n 2, [], []), some (.ifCond .ne (7), [126], []), none, none, some (.iload_n 3, [], []), some (.goto (5), [128], []), none, none, some (.iload 4, [], []), none], [some (.ireturn, [], [])]], 1, 8, [(62, [0, 1, 2, 3, 4, 5, 6])])
-- WhirlShafts.trim(IIIII)I
def e_76 : q_E := ([[some (.aload_n 0, [], []), some (.getfield 39, [11, 2, 1], []), none, none, some (.iload_n 1, [], []), some (.invokevirtual 137, [19, 1, 1, 4], []), none, none, some (.ifCond .eq (34), [42], []), none, none, some (.aload_n 0, [], []), some (.getfield 39, [11, 2, 1], []), none, none, some (.iload_n 2, [], [])], [some (.invokevirtual 137, [19, 1, 1, 4], []), none, none, some (.ifCond .eq (23), [42], []), none, none, some (.iload_n 3, [], []), some (.iload 4, [], []), none, some (.invokestatic 158, [107, 2, 1], []), none, none, some (.ifCond .eq (14), [42], []), none, none, some (.iload 5, [], [])], [none, some (.ifCond .lt (9), [42], []), none, none, some (.iload 5, [], []), none, some (.iconst (1), [], [(1, 0)]), some (.if_icmp .le (5), [44], []), none, none, some (.iconst (-1), [], [(-1, 0)]), some (.ireturn, [], []), some (.aload_n 0, [], []), some (.getfield 43, [11, 3, 1], []), none, none], [some (.aload_n 0, [], []), some (.getfield 39, [11, 2, 1], []), none, none, some (.invokevirtual 199, [16, 1, 0, 4], []), none, none, some (.aload_n 0, [], []), some (.iload_n 1, [], []), some (.iload_n 2, [], []), some (.iload_n 3, [], []), some (.iload 4, [], []), none, some (.invokevirtual 202, [114, 4, 1, 11], []), none, none], [some (.istore 6, [], []), none, some (.iload 6, [], []), none, some (.bipush (99), [], [(99, 0)]), none, some (.if_icmp .le (9), [79], []), none, none, some (.sipush (10000), [], [(10000, 0)]), none, none, some (.goto (15), [91], []), none, none, some (.iload_n 3, [], [])], [some (.aload_n 0, [], []), some (.iload_n 1, [], []), some (.iload 6, [], []), none, some (.iload_n 2, [], []), some (.iload 4, [], []), none, some (.invokevirtual 205, [113, 4, 1, 11], []), none, none, some (.isub, [], []), some (.istore 7, [], []), none, some (.iload 6, [], []), none, some (.iconst (1), [], [(1, 0)])], [some (.if_icmp .le (44), [140], []), none, none, some (.aload_n 0, [], []), some (.iload_n 1, [], []), some (.iload 6, [], []), none, some (.iconst (1), [], [(1, 0)]), some (.isub, [], []), some (.iload_n 2, [], []), some (.iload 4, [], []), none, some (.invokevirtual 205, [113, 4, 1, 11], []), none, none, some (.istore 8, [], [])], [none, some (.iload 8, [], []), none, some (.iload_n 3, [], []), some (.isub, [], []), some (.iload 7, [], []), none, some (.if_icmp .gt (21), [140], []), none, none, some (.iload 8, [], []), none, some (.iload_n 3, [], []), some (.isub, [], []), some (.istore 7, [], []), none], [some (.aload_n 0, [], []), some (.iload_n 1, [], []), some (.iload_n 2, [], []), some (.iload 8, [], []), none, some (.iload 4, [], []), none, some (.invokevirtual 202, [114, 4, 1, 11], []), none, none, some (.istore 6, [], []), none, some (.iload 5, [], []), none, some (.ifCond .ne (8), [150], []), none], [none, some (.iload 6, [], []), none, some (.goto (5), [152], []), none, none, some (.iload 7, [], []), none, some (.ireturn, [], [])]], 1, 9, [(91, [0, 1, 2, 3, 4, 5, 6])])
-- WhirlShafts.tune(IIII)I
def e_77 : q_E := ([[some (.aload_n 0, [], []), some (.getfield 39, [11, 2, 1], []), none, none, some (.iload_n 1, [], []), some (.invokevirtual 130, [20, 1, 1, 4], []), none, none, some (.ifCond .eq (13), [21], []), none, none, some (.iload_n 2, [], []), some (.iload_n 3, [], []), some (.iload 4, [], []), none, some (.invokestatic 189, [108, 3, 1], [])], [none, none, some (.ifCond .ne (5), [23], []), none, none, some (.iconst (-1), [], [(-1, 0)]), some (.ireturn, [], []), some (.aload_n 0, [], []), some (.getfield 43, [11, 3, 1], []), none, none, some (.aload_n 0, [], []), some (.getfield 39, [11, 2, 1], []), none, none, some (.invokevirtual 199, [16, 1, 0, 4], [])], [none, none, some (.iconst (1), [], [(1, 0)]), some (.istore 5, [], []), none, some (.iload 5, [], []), none, some (.bipush (99), [], [(99, 0)]), none, some (.if_icmp .gt (48), [89], []), none, none, some (.aload_n 0, [], []), some (.getfield 43, [11, 3, 1], []), none, none], [some (.getfield 208, [4, 4, 1], []), none, none, some (.iload_n 1, [], []), some (.iload 5, [], []), none, some (.iastore, [], []), some (.aload_n 0, [], []), some (.getfield 69, [11, 9, 1], []), none, none, some (.aload_n 0, [], []), some (.getfield 43, [11, 3, 1], []), none, none, some (.invokevirtual 161, [36, 1, 0, 6], [])], [none, none, some (.aload_n 0, [], []), some (.getfield 69, [11, 9, 1], []), none, none, some (.iload_n 2, [], []), some (.iload_n 3, [], []), some (.iload 4, [], []), none, some (.invokevirtual 193, [45, 3, 1, 6], []), none, none, some (.ifCond .ne (6), [83], []), none, none], [some (.iload 5, [], []), none, some (.ireturn, [], []), some (.iinc 5 (1), [], [(1, 0)]), none, none, some (.goto (-49), [37], []), none, none, some (.bipush (-2), [], [(-2, 0)]), none, some (.ireturn, [], [])]], 1, 6, [(37, [0, 1, 2, 3, 4, 5])])
-- WhirlShafts.heavier(III)I
def e_78 : q_E := ([[some (.aload_n 0, [], []), some (.getfield 39, [11, 2, 1], []), none, none, some (.iload_n 1, [], []), some (.invokevirtual 137, [19, 1, 1, 4], []), none, none, some (.ifCond .eq (19), [27], []), none, none, some (.iload_n 2, [], []), some (.invokestatic 182, [106, 1, 1], []), none, none, some (.ifCond .eq (12), [27], [])], [none, none, some (.iload_n 3, [], []), some (.ifCond .lt (8), [27], []), none, none, some (.iload_n 3, [], []), some (.iconst (1), [], [(1, 0)]), some (.if_icmp .le (5), [29], []), none, none, some (.iconst (-1), [], [(-1, 0)]), some (.ireturn, [], []), some (.aload_n 0, [], []), some (.getfield 43, [11, 3, 1], []), none], [none, some (.aload_n 0, [], []), some (.getfield 39, [11, 2, 1], []), none, none, some (.invokevirtual 199, [16, 1, 0, 4], []), none, none, some (.bipush (-2), [], [(-2, 0)]), none, some (.istore 4, [], []), none, some (.bipush (-2), [], [(-2, 0)]), none, some (.istore 5, [], []), none], [some (.iconst (0), [], [(0, 0)]), some (.istore 6, [], []), none, some (.iload 6, [], []), none, some (.aload_n 0, [], []), some (.getfield 39, [11, 2, 1], []), none, none, some (.getfield 95, [4, 6, 0], []), none, none, some (.if_icmp .ge (86), [146], []), none, none, some (.aload_n 0, [], [])], [some (.getfield 39, [11, 2, 1], []), none, none, some (.getfield 211, [4, 2, 1], []), none, none, some (.iload 6, [], []), none, some (.iaload, [], []), some (.bipush (99), [], [(99, 0)]), none, some (.if_icmp .ge (65), [140], []), none, none, some (.aload_n 0, [], []), some (.iload 6, [], [])], [none, some (.aload_n 0, [], []), some (.getfield 39, [11, 2, 1], []), none, none, some (.getfield 211, [4, 2, 1], []), none, none, some (.iload 6, [], []), none, some (.iaload, [], []), some (.iconst (1), [], [(1, 0)]), some (.iadd, [], []), some (.iload_n 1, [], []), some (.iload_n 2, [], []), some (.invokevirtual 205, [113, 4, 1, 11], [])], [none, none, some (.istore 7, [], []), none, some (.aload_n 0, [], []), some (.getfield 43, [11, 3, 1], []), none, none, some (.getfield 211, [4, 2, 1], []), none, none, some (.iload 6, [], []), none, some (.aload_n 0, [], []), some (.getfield 39, [11, 2, 1], []), none], [none, some (.getfield 211, [4, 2, 1], []), none, none, some (.iload 6, [], []), none, some (.iaload, [], []), some (.iastore, [], []), some (.iload 4, [], []), none, some (.ifCond .lt (10), [132], []), none, none, some (.iload 7, [], []), none, some (.iload 5, [], [])], [none, some (.if_icmp .ge (11), [140], []), none, none, some (.iload 6, [], []), none, some (.istore 4, [], []), none, some (.iload 7, [], []), none, some (.istore 5, [], []), none, some (.iinc 6 (1), [], [(1, 0)]), none, none, some (.goto (-92), [51], [])], [none, none, some (.iload_n 3, [], []), some (.ifCond .ne (8), [155], []), none, none, some (.iload 4, [], []), none, some (.goto (5), [157], []), none, none, some (.iload 5, [], []), none, some (.ireturn, [], [])]], 1, 8, [(51, [0, 1, 2, 3, 4, 5, 6])])
-- WhirlShafts.change(II)I
def e_79 : q_E := ([[some (.aload_n 0, [], []), some (.getfield 39, [11, 2, 1], []), none, none, some (.iload_n 1, [], []), some (.invokevirtual 137, [19, 1, 1, 4], []), none, none, some (.ifCond .eq (10), [18], []), none, none, some (.iload_n 2, [], []), some (.invokestatic 182, [106, 1, 1], []), none, none, some (.ifCond .ne (5), [20], [])], [none, none, some (.iconst (-1), [], [(-1, 0)]), some (.ireturn, [], []), some (.aload_n 0, [], []), some (.getfield 43, [11, 3, 1], []), none, none, some (.aload_n 0, [], []), some (.getfield 39, [11, 2, 1], []), none, none, some (.invokevirtual 199, [16, 1, 0, 4], []), none, none, some (.bipush (-2), [], [(-2, 0)])], [none, some (.istore_n 3, [], []), some (.aload_n 0, [], []), some (.aload_n 0, [], []), some (.getfield 39, [11, 2, 1], []), none, none, some (.iload_n 1, [], []), some (.iload_n 2, [], []), some (.invokevirtual 185, [112, 3, 1, 11], []), none, none, some (.istore 4, [], []), none, some (.iconst (0), [], [(0, 0)]), some (.istore 5, [], [])], [none, some (.iload 5, [], []), none, some (.iconst (1), [], [(1, 0)]), some (.iadd, [], []), some (.aload_n 0, [], []), some (.getfield 39, [11, 2, 1], []), none, none, some (.getfield 95, [4, 6, 0], []), none, none, some (.if_icmp .ge (53), [113], []), none, none, some (.aload_n 0, [], [])], [some (.getfield 43, [11, 3, 1], []), none, none, some (.iload 5, [], []), none, some (.invokevirtual 214, [18, 1, 0, 4], []), none, none, some (.aload_n 0, [], []), some (.aload_n 0, [], []), some (.getfield 43, [11, 3, 1], []), none, none, some (.iload_n 1, [], []), some (.iload_n 2, [], []), some (.invokevirtual 185, [112, 3, 1, 11], [])], [none, none, some (.istore 6, [], []), none, some (.aload_n 0, [], []), some (.getfield 43, [11, 3, 1], []), none, none, some (.iload 5, [], []), none, some (.invokevirtual 214, [18, 1, 0, 4], []), none, none, some (.iload 6, [], []), none, some (.iload 4, [], [])], [none, some (.if_icmp .le (10), [107], []), none, none, some (.iload 5, [], []), none, some (.istore_n 3, [], []), some (.iload 6, [], []), none, some (.istore 4, [], []), none, some (.iinc 5 (1), [], [(1, 0)]), none, none, some (.goto (-61), [49], []), none], [none, some (.iload_n 3, [], []), some (.ireturn, [], [])]], 1, 7, [(49, [0, 1, 2, 3, 4, 5])])
-- WhirlShafts.critical(I)I
def e_80 : q_E := ([[some (.aload_n 0, [], []), some (.getfield 39, [11, 2, 1], []), none, none, some (.iload_n 1, [], []), some (.invokevirtual 137, [19, 1, 1, 4], []), none, none, some (.ifCond .ne (5), [13], []), none, none, some (.iconst (-1), [], [(-1, 0)]), some (.ireturn, [], []), some (.aload_n 0, [], []), some (.getfield 43, [11, 3, 1], []), none], [none, some (.aload_n 0, [], []), some (.getfield 39, [11, 2, 1], []), none, none, some (.invokevirtual 199, [16, 1, 0, 4], []), none, none, some (.iconst (1), [], [(1, 0)]), some (.istore_n 2, [], []), some (.iload_n 2, [], []), some (.bipush (9), [], [(9, 0)]), none, some (.if_icmp .gt (35), [64], []), none, none], [some (.aload_n 0, [], []), some (.getfield 43, [11, 3, 1], []), none, none, some (.iload_n 2, [], []), some (.putfield 106, [4, 7, 0], []), none, none, some (.aload_n 0, [], []), some (.aload_n 0, [], []), some (.getfield 43, [11, 3, 1], []), none, none, some (.iload_n 1, [], []), some (.iconst (1), [], [(1, 0)]), some (.invokevirtual 185, [112, 3, 1, 11], [])], [none, none, some (.iload_n 2, [], []), some (.iload_n 2, [], []), some (.imul, [], []), some (.if_icmp .gt (5), [58], []), none, none, some (.iload_n 2, [], []), some (.ireturn, [], []), some (.iinc 2 (1), [], [(1, 0)]), none, none, some (.goto (-35), [26], []), none, none], [some (.bipush (-2), [], [(-2, 0)]), none, some (.ireturn, [], [])]], 1, 3, [(26, [0, 1, 2])])
-- WhirlShafts.fits(IIIII)I
def e_81 : q_E := ([[some (.iload_n 1, [], []), some (.invokestatic 218, [109, 1, 1], []), none, none, some (.ifCond .eq (48), [52], []), none, none, some (.iload_n 2, [], []), some (.ifCond .lt (44), [52], []), none, none, some (.iload_n 2, [], []), some (.aload_n 0, [], []), some (.getfield 39, [11, 2, 1], []), none, none], [some (.getfield 95, [4, 6, 0], []), none, none, some (.if_icmp .gt (33), [52], []), none, none, some (.iload_n 3, [], []), some (.invokestatic 182, [106, 1, 1], []), none, none, some (.ifCond .eq (26), [52], []), none, none, some (.aload_n 0, [], []), some (.getfield 39, [11, 2, 1], []), none], [none, some (.iload 4, [], []), none, some (.invokevirtual 137, [19, 1, 1, 4], []), none, none, some (.ifCond .eq (14), [52], []), none, none, some (.iload 5, [], []), none, some (.ifCond .lt (9), [52], []), none, none, some (.iload 5, [], []), none], [some (.iconst (2), [], [(2, 0)]), some (.if_icmp .le (5), [54], []), none, none, some (.iconst (-1), [], [(-1, 0)]), some (.ireturn, [], []), some (.aload_n 0, [], []), some (.getfield 82, [11, 11, 1], []), none, none, some (.iload_n 1, [], []), some (.aaload, [], []), some (.invokevirtual 221, [48, 0, 1, 8], []), none, none, some (.ifCond .eq (6), [69], [])], [none, none, some (.bipush (-11), [], [(-11, 0)]), none, some (.ireturn, [], []), some (.iload_n 2, [], []), some (.aload_n 0, [], []), some (.getfield 82, [11, 11, 1], []), none, none, some (.iload_n 1, [], []), some (.aaload, [], []), some (.getfield 225, [8, 2, 0], []), none, none, some (.if_icmp .le (6), [85], [])], [none, none, some (.bipush (-13), [], [(-13, 0)]), none, some (.ireturn, [], []), some (.aload_n 0, [], []), some (.getfield 43, [11, 3, 1], []), none, none, some (.aload_n 0, [], []), some (.getfield 39, [11, 2, 1], []), none, none, some (.invokevirtual 199, [16, 1, 0, 4], []), none, none], [some (.iload 5, [], []), none, some (.iconst (2), [], [(2, 0)]), some (.if_icmp .ne (18), [117], []), none, none, some (.aload_n 0, [], []), some (.aload_n 0, [], []), some (.getfield 82, [11, 11, 1], []), none, none, some (.iload_n 1, [], []), some (.aaload, [], []), some (.iload_n 2, [], []), some (.iload_n 3, [], []), some (.iload 4, [], [])], [none, some (.invokevirtual 228, [117, 4, 1, 11], []), none, none, some (.ireturn, [], []), some (.aload_n 0, [], []), some (.aload_n 0, [], []), some (.getfield 82, [11, 11, 1], []), none, none, some (.iload_n 1, [], []), some (.aaload, [], []), some (.iload_n 2, [], []), some (.iload_n 3, [], []), some (.iload 4, [], []), none], [some (.iload 5, [], []), none, some (.iconst (1), [], [(1, 0)]), some (.if_icmp .ne (7), [138], []), none, none, some (.iconst (1), [], [(1, 0)]), some (.goto (4), [139], []), none, none, some (.iconst (0), [], [(0, 0)]), some (.invokevirtual 232, [116, 5, 1, 11], []), none, none, some (.ireturn, [], [])]], 1, 6, [(60, [0, 1, 2, 3, 4, 5]), (76, [0, 1, 2, 3, 4, 5]), (109, [2, 3, 4]), (124, [2, 3, 4, 5])])
-- WhirlShafts.judge(II)I
def e_82 : q_E := ([[some (.iload_n 1, [], []), some (.invokestatic 218, [109, 1, 1], []), none, none, some (.ifCond .eq (10), [14], []), none, none, some (.iload_n 2, [], []), some (.invokestatic 182, [106, 1, 1], []), none, none, some (.ifCond .ne (5), [16], []), none, none, some (.iconst (-1), [], [(-1, 0)]), some (.ireturn, [], [])], [some (.aload_n 0, [], []), some (.getfield 82, [11, 11, 1], []), none, none, some (.iload_n 1, [], []), some (.aaload, [], []), some (.astore_n 3, [], []), some (.aload_n 3, [], []), some (.invokevirtual 221, [48, 0, 1, 8], []), none, none, some (.ifCond .eq (6), [33], []), none, none, some (.bipush (-11), [], [(-11, 0)]), none], [some (.ireturn, [], []), some (.aload_n 0, [], []), some (.getfield 69, [11, 9, 1], []), none, none, some (.aload_n 0, [], []), some (.getfield 39, [11, 2, 1], []), none, none, some (.invokevirtual 161, [36, 1, 0, 6], []), none, none, some (.iconst (0), [], [(0, 0)]), some (.istore 4, [], []), none, some (.iload 4, [], [])], [none, some (.aload_n 0, [], []), some (.getfield 39, [11, 2, 1], []), none, none, some (.getfield 95, [4, 6, 0], []), none, none, some (.if_icmp .ge (47), [103], []), none, none, some (.iload 4, [], []), none, some (.aload_n 3, [], []), some (.getfield 225, [8, 2, 0], []), none], [none, some (.if_icmp .lt (9), [74], []), none, none, some (.bipush (100), [], [(100, 0)]), none, some (.iload 4, [], []), none, some (.iadd, [], []), some (.ireturn, [], []), some (.aload_n 0, [], []), some (.getfield 69, [11, 9, 1], []), none, none, some (.iload 4, [], []), none], [some (.iload_n 2, [], []), some (.aload_n 3, [], []), some (.getfield 236, [8, 0, 1], []), none, none, some (.iload 4, [], []), none, some (.laload, [], []), some (.invokevirtual 240, [44, 3, 1, 6], []), none, none, some (.ifCond .ne (6), [97], []), none, none, some (.iload 4, [], []), none], [some (.ireturn, [], []), some (.iinc 4 (1), [], [(1, 0)]), none, none, some (.goto (-53), [47], []), none, none, some (.bipush (-2), [], [(-2, 0)]), none, some (.ireturn, [], [])]], 1, 5, [(22, [0, 2]), (47, [0, 2, 3, 4])])
-- WhirlShafts.order(III)I
def e_83 : q_E := ([[some (.iload_n 1, [], []), some (.ifCond .lt (8), [9], []), none, none, some (.iload_n 1, [], []), some (.iconst (5), [], [(5, 0)]), some (.if_icmp .le (5), [11], []), none, none, some (.iconst (-1), [], [(-1, 0)]), some (.ireturn, [], []), some (.aload_n 0, [], []), some (.getfield 52, [11, 6, 1], []), none, none, some (.getfield 244, [5, 3, 0], [])], [none, none, some (.bipush (8), [], [(8, 0)]), none, some (.if_icmp .lt (6), [26], []), none, none, some (.bipush (-3), [], [(-3, 0)]), none, some (.ireturn, [], []), some (.aload_n 0, [], []), some (.getfield 52, [11, 6, 1], []), none, none, some (.iload_n 1, [], []), some (.iload_n 2, [], [])], [some (.iload_n 3, [], []), some (.invokevirtual 247, [34, 3, 1, 5], []), none, none, some (.ireturn, [], [])]], 1, 4, [])
-- WhirlShafts.tried(II)I
def e_84 : q_E := ([[some (.aload_n 0, [], []), some (.getfield 39, [11, 2, 1], []), none, none, some (.iload_n 1, [], []), some (.invokevirtual 137, [19, 1, 1, 4], []), none, none, some (.ifCond .eq (10), [18], []), none, none, some (.iload_n 2, [], []), some (.invokestatic 182, [106, 1, 1], []), none, none, some (.ifCond .ne (5), [20], [])], [none, none, some (.iconst (-1), [], [(-1, 0)]), some (.ireturn, [], []), some (.aload_n 0, [], []), some (.getfield 43, [11, 3, 1], []), none, none, some (.aload_n 0, [], []), some (.getfield 39, [11, 2, 1], []), none, none, some (.invokevirtual 199, [16, 1, 0, 4], []), none, none, some (.iconst (0), [], [(0, 0)])], [some (.istore_n 3, [], []), some (.iload_n 3, [], []), some (.aload_n 0, [], []), some (.getfield 52, [11, 6, 1], []), none, none, some (.getfield 244, [5, 3, 0], []), none, none, some (.if_icmp .ge (80), [121], []), none, none, some (.aload_n 0, [], []), some (.getfield 43, [11, 3, 1], []), none, none], [some (.aload_n 0, [], []), some (.getfield 52, [11, 6, 1], []), none, none, some (.getfield 249, [5, 0, 1], []), none, none, some (.iload_n 3, [], []), some (.iaload, [], []), some (.aload_n 0, [], []), some (.getfield 52, [11, 6, 1], []), none, none, some (.getfield 252, [5, 1, 1], []), none, none], [some (.iload_n 3, [], []), some (.iaload, [], []), some (.aload_n 0, [], []), some (.getfield 52, [11, 6, 1], []), none, none, some (.getfield 255, [5, 2, 1], []), none, none, some (.iload_n 3, [], []), some (.iaload, [], []), some (.invokevirtual 112, [22, 3, 1, 4], []), none, none, some (.ifCond .ne (37), [115], []), none], [none, some (.aload_n 0, [], []), some (.getfield 43, [11, 3, 1], []), none, none, some (.aload_n 0, [], []), some (.getfield 52, [11, 6, 1], []), none, none, some (.getfield 249, [5, 0, 1], []), none, none, some (.iload_n 3, [], []), some (.iaload, [], []), some (.aload_n 0, [], []), some (.getfield 52, [11, 6, 1], [])], [none, none, some (.getfield 252, [5, 1, 1], []), none, none, some (.iload_n 3, [], []), some (.iaload, [], []), some (.aload_n 0, [], []), some (.getfield 52, [11, 6, 1], []), none, none, some (.getfield 255, [5, 2, 1], []), none, none, some (.iload_n 3, [], []), some (.iaload, [], [])], [some (.invokevirtual 119, [24, 3, 0, 4], []), none, none, some (.iinc 3 (1), [], [(1, 0)]), none, none, some (.goto (-85), [33], []), none, none, some (.aload_n 0, [], []), some (.aload_n 0, [], []), some (.getfield 43, [11, 3, 1], []), none, none, some (.iload_n 1, [], []), some (.iload_n 2, [], [])], [some (.invokevirtual 185, [112, 3, 1, 11], []), none, none, some (.ireturn, [], [])]], 1, 4, [(33, [0, 1, 2, 3])])
-- WhirlShafts.does()I
def e_85 : q_E := ([[some (.iconst (0), [], [(0, 0)]), some (.istore_n 1, [], []), some (.iconst (0), [], [(0, 0)]), some (.istore_n 2, [], []), some (.iload_n 2, [], []), some (.aload_n 0, [], []), some (.getfield 52, [11, 6, 1], []), none, none, some (.getfield 244, [5, 3, 0], []), none, none, some (.if_icmp .ge (46), [58], []), none, none, some (.aload_n 0, [], [])], [some (.aload_n 0, [], []), some (.getfield 52, [11, 6, 1], []), none, none, some (.getfield 249, [5, 0, 1], []), none, none, some (.iload_n 2, [], []), some (.iaload, [], []), some (.aload_n 0, [], []), some (.getfield 52, [11, 6, 1], []), none, none, some (.getfield 252, [5, 1, 1], []), none, none], [some (.iload_n 2, [], []), some (.iaload, [], []), some (.aload_n 0, [], []), some (.getfield 52, [11, 6, 1], []), none, none, some (.getfield 255, [5, 2, 1], []), none, none, some (.iload_n 2, [], []), some (.iaload, [], []), some (.invokevirtual 258, [64, 3, 1, 11], []), none, none, some (.ifCond .lt (6), [52], []), none], [none, some (.iinc 1 (1), [], [(1, 0)]), none, none, some (.iinc 2 (1), [], [(1, 0)]), none, none, some (.goto (-51), [4], []), none, none, some (.aload_n 0, [], []), some (.getfield 52, [11, 6, 1], []), none, none, some (.iconst (0), [], [(0, 0)]), some (.putfield 244, [5, 3, 0], [])], [none, none, some (.iload_n 1, [], []), some (.ireturn, [], [])]], 1, 3, [(4, [0, 1, 2])])
-- WhirlShafts.drop()I
def e_86 : q_E := ([[some (.aload_n 0, [], []), some (.getfield 52, [11, 6, 1], []), none, none, some (.getfield 244, [5, 3, 0], []), none, none, some (.istore_n 1, [], []), some (.aload_n 0, [], []), some (.getfield 52, [11, 6, 1], []), none, none, some (.iconst (0), [], [(0, 0)]), some (.putfield 244, [5, 3, 0], []), none, none], [some (.iload_n 1, [], []), some (.ireturn, [], [])]], 1, 2, [])
-- WhirlShafts.undo()I
def e_87 : q_E := ([[some (.aload_n 0, [], []), some (.getfield 62, [11, 8, 1], []), none, none, some (.getfield 261, [0, 4, 0], []), none, none, some (.ifCond .ne (8), [15], []), none, none, some (.bipush (-5), [], [(-5, 0)]), none, some (.goto (14), [26], []), none, none, some (.aload_n 0, [], [])], [some (.getfield 62, [11, 8, 1], []), none, none, some (.aload_n 0, [], []), some (.getfield 39, [11, 2, 1], []), none, none, some (.invokevirtual 264, [3, 1, 1, 0], []), none, none, some (.ireturn, [], [])]], 1, 1, [])
-- WhirlShafts.redo()I
def e_88 : q_E := ([[some (.aload_n 0, [], []), some (.getfield 62, [11, 8, 1], []), none, none, some (.getfield 268, [0, 5, 0], []), none, none, some (.ifCond .ne (8), [15], []), none, none, some (.bipush (-5), [], [(-5, 0)]), none, some (.goto (14), [26], []), none, none, some (.aload_n 0, [], [])], [some (.getfield 62, [11, 8, 1], []), none, none, some (.aload_n 0, [], []), some (.getfield 39, [11, 2, 1], []), none, none, some (.invokevirtual 271, [4, 1, 1, 0], []), none, none, some (.ireturn, [], [])]], 1, 1, [])
-- WhirlShafts.feed(I)I
def e_89 : q_E := ([[some (.iload_n 1, [], []), some (.bipush (32), [], [(32, 0)]), none, some (.if_icmp .lt (9), [12], []), none, none, some (.iload_n 1, [], []), some (.bipush (126), [], [(126, 0)]), none, some (.if_icmp .le (5), [14], []), none, none, some (.iconst (-1), [], [(-1, 0)]), some (.ireturn, [], []), some (.aload_n 0, [], []), some (.getfield 76, [11, 10, 1], [])], [none, none, some (.getfield 274, [10, 1, 0], []), none, none, some (.bipush (80), [], [(80, 0)]), none, some (.if_icmp .lt (6), [29], []), none, none, some (.bipush (-3), [], [(-3, 0)]), none, some (.ireturn, [], []), some (.aload_n 0, [], []), some (.getfield 76, [11, 10, 1], []), none], [none, some (.iload_n 1, [], []), some (.invokevirtual 277, [55, 1, 1, 10], []), none, none, some (.ireturn, [], [])]], 1, 2, [])
-- WhirlShafts.wipe()I
def e_90 : q_E := ([[some (.aload_n 0, [], []), some (.getfield 76, [11, 10, 1], []), none, none, some (.getfield 274, [10, 1, 0], []), none, none, some (.istore_n 1, [], []), some (.aload_n 0, [], []), some (.getfield 76, [11, 10, 1], []), none, none, some (.iconst (0), [], [(0, 0)]), some (.putfield 274, [10, 1, 0], []), none, none], [some (.iload_n 1, [], []), some (.ireturn, [], [])]], 1, 2, [])
-- WhirlShafts.read()I
def e_91 : q_E := ([[some (.aload_n 0, [], []), some (.getfield 76, [11, 10, 1], []), none, none, some (.invokevirtual 279, [58, 0, 1, 10], []), none, none, some (.istore_n 1, [], []), some (.iload_n 1, [], []), some (.ifCond .lt (10), [19], []), none, none, some (.bipush (-100), [], [(-100, 0)]), none, some (.iload_n 1, [], []), some (.isub, [], [])], [some (.goto (7), [23], []), none, none, some (.aload_n 0, [], []), some (.invokevirtual 282, [118, 0, 1, 11], []), none, none, some (.istore_n 2, [], []), some (.aload_n 0, [], []), some (.getfield 76, [11, 10, 1], []), none, none, some (.iconst (0), [], [(0, 0)]), some (.putfield 274, [10, 1, 0], []), none, none], [some (.iload_n 2, [], []), some (.ireturn, [], [])]], 1, 3, [])
-- WhirlShafts.row(III)I
def e_92 : q_E := ([[some (.iload_n 1, [], []), some (.invokestatic 218, [109, 1, 1], []), none, none, some (.ifCond .eq (13), [17], []), none, none, some (.iload_n 2, [], []), some (.iconst (-1), [], [(-1, 0)]), some (.if_icmp .lt (8), [17], []), none, none, some (.iload_n 2, [], []), some (.iconst (2), [], [(2, 0)]), some (.if_icmp .le (5), [19], []), none], [none, some (.iconst (-1), [], [(-1, 0)]), some (.ireturn, [], []), some (.iload_n 2, [], []), some (.iconst (-1), [], [(-1, 0)]), some (.if_icmp .ne (16), [37], []), none, none, some (.aload_n 0, [], []), some (.getfield 82, [11, 11, 1], []), none, none, some (.iload_n 1, [], []), some (.aaload, [], []), some (.iconst (-1), [], [(-1, 0)]), some (.iconst (0), [], [(0, 0)])], [some (.invokevirtual 285, [49, 2, 0, 8], []), none, none, some (.iconst (1), [], [(1, 0)]), some (.ireturn, [], []), some (.iload_n 3, [], []), some (.bipush (40), [], [(40, 0)]), none, some (.if_icmp .le (5), [45], []), none, none, some (.iconst (-1), [], [(-1, 0)]), some (.ireturn, [], []), some (.iload_n 3, [], []), some (.ifCond .ge (6), [52], []), none], [none, some (.bipush (-14), [], [(-14, 0)]), none, some (.ireturn, [], []), some (.aload_n 0, [], []), some (.getfield 82, [11, 11, 1], []), none, none, some (.iload_n 1, [], []), some (.aaload, [], []), some (.iload_n 2, [], []), some (.iload_n 3, [], []), some (.invokevirtual 285, [49, 2, 0, 8], []), none, none, some (.iconst (1), [], [(1, 0)])], [some (.ireturn, [], [])]], 1, 4, [(30, []), (58, [2, 3])])
-- WhirlShafts.put(IIJ)I
def e_93 : q_E := ([[some (.iload_n 1, [], []), some (.invokestatic 218, [109, 1, 1], []), none, none, some (.ifCond .ne (5), [9], []), none, none, some (.iconst (-1), [], [(-1, 0)]), some (.ireturn, [], []), some (.aload_n 0, [], []), some (.getfield 82, [11, 11, 1], []), none, none, some (.iload_n 1, [], []), some (.aaload, [], []), some (.invokevirtual 221, [48, 0, 1, 8], [])], [none, none, some (.ifCond .eq (6), [24], []), none, none, some (.bipush (-11), [], [(-11, 0)]), none, some (.ireturn, [], []), some (.aload_n 0, [], []), some (.getfield 82, [11, 11, 1], []), none, none, some (.iload_n 1, [], []), some (.aaload, [], []), some (.iload_n 2, [], []), some (.invokevirtual 289, [50, 1, 1, 8], [])], [none, none, some (.ifCond .ne (6), [40], []), none, none, some (.bipush (-13), [], [(-13, 0)]), none, some (.ireturn, [], []), some (.aload_n 0, [], []), some (.getfield 82, [11, 11, 1], []), none, none, some (.iload_n 1, [], []), some (.aaload, [], []), some (.iload_n 2, [], []), some (.lload_n 3, [], [])], [some (.invokevirtual 291, [52, 2, 0, 8], []), none, none, some (.iconst (1), [], [(1, 0)]), some (.ireturn, [], [])]], 1, 5, [(15, [0, 1, 2, 3]), (30, [0, 1, 2, 3]), (46, [2, 3])])
-- WhirlShafts.get(II)J
def e_94 : q_E := ([[some (.iload_n 1, [], []), some (.invokestatic 218, [109, 1, 1], []), none, none, some (.ifCond .eq (30), [34], []), none, none, some (.aload_n 0, [], []), some (.getfield 82, [11, 11, 1], []), none, none, some (.iload_n 1, [], []), some (.aaload, [], []), some (.iload_n 2, [], []), some (.invokevirtual 289, [50, 1, 1, 8], []), none], [none, some (.ifCond .eq (17), [34], []), none, none, some (.aload_n 0, [], []), some (.getfield 82, [11, 11, 1], []), none, none, some (.iload_n 1, [], []), some (.aaload, [], []), some (.getfield 236, [8, 0, 1], []), none, none, some (.iload_n 2, [], []), some (.laload, [], []), some (.goto (6), [37], [])], [none, none, some (.ldc2_w 295, [9223372036854775808], []), none, none, some (.lreturn, [], [])]], 3, 3, [(13, [0, 1, 2]), (26, [2])])
-- WhirlShafts.film(III)I
def e_95 : q_E := ([[some (.iload_n 1, [], []), some (.invokestatic 218, [109, 1, 1], []), none, none, some (.ifCond .eq (19), [23], []), none, none, some (.iload_n 2, [], []), some (.ifCond .lt (15), [23], []), none, none, some (.iload_n 2, [], []), some (.iconst (2), [], [(2, 0)]), some (.if_icmp .gt (10), [23], []), none, none], [some (.iload_n 3, [], []), some (.invokestatic 182, [106, 1, 1], []), none, none, some (.ifCond .ne (5), [25], []), none, none, some (.iconst (-1), [], [(-1, 0)]), some (.ireturn, [], []), some (.aload_n 0, [], []), some (.getfield 69, [11, 9, 1], []), none, none, some (.aload_n 0, [], []), some (.getfield 39, [11, 2, 1], []), none], [none, some (.invokevirtual 161, [36, 1, 0, 6], []), none, none, some (.aload_n 0, [], []), some (.getfield 82, [11, 11, 1], []), none, none, some (.iload_n 1, [], []), some (.aaload, [], []), some (.iload_n 2, [], []), some (.aload_n 0, [], []), some (.getfield 39, [11, 2, 1], []), none, none, some (.getfield 95, [4, 6, 0], [])], [none, none, some (.invokevirtual 285, [49, 2, 0, 8], []), none, none, some (.iconst (0), [], [(0, 0)]), some (.istore 4, [], []), none, some (.iload 4, [], []), none, some (.aload_n 0, [], []), some (.getfield 39, [11, 2, 1], []), none, none, some (.getfield 95, [4, 6, 0], []), none], [none, some (.if_icmp .ge (31), [96], []), none, none, some (.aload_n 0, [], []), some (.getfield 82, [11, 11, 1], []), none, none, some (.iload_n 1, [], []), some (.aaload, [], []), some (.iload 4, [], []), none, some (.aload_n 0, [], []), some (.getfield 69, [11, 9, 1], []), none, none], [some (.iload 4, [], []), none, some (.iload_n 3, [], []), some (.invokevirtual 196, [43, 2, 1, 6], []), none, none, some (.i2l, [], []), some (.invokevirtual 291, [52, 2, 0, 8], []), none, none, some (.iinc 4 (1), [], [(1, 0)]), none, none, some (.goto (-37), [56], []), none, none], [some (.aload_n 0, [], []), some (.getfield 39, [11, 2, 1], []), none, none, some (.getfield 95, [4, 6, 0], []), none, none, some (.ireturn, [], [])]], 1, 5, [(42, [0, 1, 2, 3]), (56, [0, 1, 3, 4]), (74, [0, 1, 3, 4])])
-- WhirlShafts.copy(IIIII)I
def e_96 : q_E := ([[some (.iload_n 1, [], []), some (.invokestatic 218, [109, 1, 1], []), none, none, some (.ifCond .eq (10), [14], []), none, none, some (.iload_n 3, [], []), some (.invokestatic 218, [109, 1, 1], []), none, none, some (.ifCond .ne (5), [16], []), none, none, some (.iconst (-1), [], [(-1, 0)]), some (.ireturn, [], [])], [some (.aload_n 0, [], []), some (.getfield 82, [11, 11, 1], []), none, none, some (.iload_n 1, [], []), some (.aaload, [], []), some (.astore 6, [], []), none, some (.aload_n 0, [], []), some (.getfield 82, [11, 11, 1], []), none, none, some (.iload_n 3, [], []), some (.aaload, [], []), some (.astore 7, [], []), none], [some (.aload 6, [], []), none, some (.invokevirtual 221, [48, 0, 1, 8], []), none, none, some (.ifCond .ne (11), [48], []), none, none, some (.aload 7, [], []), none, some (.invokevirtual 221, [48, 0, 1, 8], []), none, none, some (.ifCond .eq (6), [51], []), none, none], [some (.bipush (-11), [], [(-11, 0)]), none, some (.ireturn, [], []), some (.aload 6, [], []), none, some (.getfield 297, [8, 1, 0], []), none, none, some (.aload 7, [], []), none, some (.getfield 297, [8, 1, 0], []), none, none, some (.if_icmp .eq (6), [67], []), none, none], [some (.bipush (-12), [], [(-12, 0)]), none, some (.ireturn, [], []), some (.aload 6, [], []), none, some (.iload_n 2, [], []), some (.iload 5, [], []), none, some (.invokevirtual 300, [51, 2, 1, 8], []), none, none, some (.ifCond .eq (15), [90], []), none, none, some (.aload 7, [], []), none], [some (.iload 4, [], []), none, some (.iload 5, [], []), none, some (.invokevirtual 300, [51, 2, 1, 8], []), none, none, some (.ifCond .ne (6), [93], []), none, none, some (.bipush (-13), [], [(-13, 0)]), none, some (.ireturn, [], []), some (.aload 6, [], []), none, some (.getfield 236, [8, 0, 1], [])], [none, none, some (.iload_n 2, [], []), some (.aload 7, [], []), none, some (.getfield 236, [8, 0, 1], []), none, none, some (.iload 4, [], []), none, some (.iload 5, [], []), none, some (.invokestatic 303, [0], []), none, none, some (.iload 5, [], [])], [none, some (.ireturn, [], [])]], 1, 8, [(22, [0, 2, 3, 4, 5]), (30, [2, 4, 5, 6])])
-- WhirlShafts.act(III)I
def e_97 : q_E := ([[some (.aload_n 0, [], []), some (.getfield 39, [11, 2, 1], []), none, none, some (.iload_n 1, [], []), some (.invokevirtual 137, [19, 1, 1, 4], []), none, none, some (.ifCond .eq (12), [20], []), none, none, some (.iload_n 2, [], []), some (.ifCond .lt (8), [20], []), none, none, some (.iload_n 2, [], [])], [some (.iconst (2), [], [(2, 0)]), some (.if_icmp .le (5), [22], []), none, none, some (.iconst (0), [], [(0, 0)]), some (.ireturn, [], []), some (.aload_n 0, [], []), some (.aload_n 0, [], []), some (.getfield 17, [11, 0, 1], []), none, none, some (.aload_n 0, [], []), some (.getfield 39, [11, 2, 1], []), none, none, some (.getfield 140, [4, 1, 1], [])], [none, none, some (.iload_n 1, [], []), some (.iaload, [], []), some (.aaload, [], []), some (.putfield 309, [11, 1, 2], []), none, none, some (.aload_n 0, [], []), some (.getfield 309, [11, 1, 2], []), none, none, some (.iload_n 1, [], []), some (.aload_n 0, [], []), some (.getfield 39, [11, 2, 1], []), none], [none, some (.getfield 211, [4, 2, 1], []), none, none, some (.iload_n 1, [], []), some (.iaload, [], []), some (.invokevirtual 313, [0, 2, 0, 2, 0], []), none, none, some (.iload_n 2, [], []), some (.lookupswitch (44) #[(0, 26), (1, 35)], [102], [(0, 84), (1, 93)]), none, none, none, none, none], [none, none, none, none, none, none, none, none, none, none, none, none, none, none, none, none], [none, none, none, none, some (.aload_n 0, [], []), some (.getfield 309, [11, 1, 2], []), none, none, some (.iload_n 3, [], []), some (.invokevirtual 316, [3, 1, 1, 2, 0], []), none, none, some (.ireturn, [], []), some (.aload_n 0, [], []), some (.getfield 309, [11, 1, 2], []), none], [none, some (.iload_n 3, [], []), some (.invokevirtual 319, [4, 1, 1, 2, 0], []), none, none, some (.ireturn, [], []), some (.aload_n 0, [], []), some (.getfield 309, [11, 1, 2], []), none, none, some (.iload_n 3, [], []), some (.invokevirtual 322, [5, 1, 1, 2, 0], []), none, none, some (.ireturn, [], [])]], 1, 4, [(37, [0, 1, 2, 3]), (44, [0, 1, 2, 3]), (88, [3]), (97, [3]), (106, [3])])
-- WhirlShafts.trace(I)I
def e_98 : q_E := ([[some (.aload_n 0, [], []), some (.getfield 309, [11, 1, 2], []), none, none, some (.ifnull (18), [22], []), none, none, some (.iload_n 1, [], []), some (.ifCond .lt (14), [22], []), none, none, some (.iload_n 1, [], []), some (.aload_n 0, [], []), some (.getfield 309, [11, 1, 2], []), none, none], [some (.getfield 325, [2, 1, 0], []), none, none, some (.if_icmp .lt (6), [25], []), none, none, some (.bipush (-2), [], [(-2, 0)]), none, some (.ireturn, [], []), some (.aload_n 0, [], []), some (.getfield 309, [11, 1, 2], []), none, none, some (.getfield 328, [2, 0, 1], []), none, none], [some (.iload_n 1, [], []), some (.iaload, [], []), some (.ireturn, [], [])]], 1, 2, [(4, [0, 1]), (16, [0, 1]), (29, [1])])
-- WhirlShafts.taken(II)I
def e_99 : q_E := ([[some (.aload_n 0, [], []), some (.getfield 39, [11, 2, 1], []), none, none, some (.iload_n 1, [], []), some (.invokevirtual 137, [19, 1, 1, 4], []), none, none, some (.ifCond .eq (10), [18], []), none, none, some (.iload_n 2, [], []), some (.invokestatic 87, [104, 1, 1], []), none, none, some (.ifCond .ne (5), [20], [])], [none, none, some (.iconst (-1), [], [(-1, 0)]), some (.ireturn, [], []), some (.aload_n 0, [], []), some (.getfield 39, [11, 2, 1], []), none, none, some (.getfield 140, [4, 1, 1], []), none, none, some (.iload_n 1, [], []), some (.iaload, [], []), some (.iload_n 2, [], []), some (.invokestatic 331, [110, 2, 1], []), none], [none, some (.ifCond .eq (15), [48], []), none, none, some (.aload_n 0, [], []), some (.getfield 39, [11, 2, 1], []), none, none, some (.getfield 211, [4, 2, 1], []), none, none, some (.iload_n 1, [], []), some (.iaload, [], []), some (.goto (5), [50], []), none, none], [some (.bipush (-5), [], [(-5, 0)]), none, some (.ireturn, [], [])]], 1, 3, [])
-- WhirlShafts.image()I
def e_100 : q_E := ([[some (.aload_n 0, [], []), some (.getfield 46, [11, 4, 1], []), none, none, some (.aload_n 0, [], []), some (.getfield 39, [11, 2, 1], []), none, none, some (.invokevirtual 199, [16, 1, 0, 4], []), none, none, some (.aload_n 0, [], []), some (.getfield 56, [11, 7, 1], []), none, none, some (.aload_n 0, [], [])], [some (.getfield 52, [11, 6, 1], []), none, none, some (.invokevirtual 334, [35, 1, 0, 5], []), none, none, some (.aload_n 0, [], []), some (.iconst (1), [], [(1, 0)]), some (.putfield 337, [11, 5, 4], []), none, none, some (.aload_n 0, [], []), some (.getfield 46, [11, 4, 1], []), none, none, some (.getfield 95, [4, 6, 0], [])], [none, none, some (.ireturn, [], [])]], 1, 1, [])
-- WhirlShafts.alike()I
def e_101 : q_E := ([[some (.aload_n 0, [], []), some (.getfield 337, [11, 5, 0], []), none, none, some (.ifCond .ne (6), [10], []), none, none, some (.bipush (-5), [], [(-5, 0)]), none, some (.ireturn, [], []), some (.aload_n 0, [], []), some (.getfield 39, [11, 2, 1], []), none, none, some (.aload_n 0, [], []), some (.getfield 46, [11, 4, 1], [])], [none, none, some (.invokevirtual 341, [33, 1, 1, 4], []), none, none, some (.ifCond .eq (7), [28], []), none, none, some (.iconst (1), [], [(1, 0)]), some (.goto (4), [29], []), none, none, some (.iconst (0), [], [(0, 0)]), some (.ireturn, [], [])]], 1, 1, [])
-- WhirlShafts.back()I
def e_102 : q_E := ([[some (.aload_n 0, [], []), some (.getfield 337, [11, 5, 0], []), none, none, some (.ifCond .ne (6), [10], []), none, none, some (.bipush (-5), [], [(-5, 0)]), none, some (.ireturn, [], []), some (.aload_n 0, [], []), some (.getfield 39, [11, 2, 1], []), none, none, some (.aload_n 0, [], []), some (.getfield 46, [11, 4, 1], [])], [none, none, some (.invokevirtual 199, [16, 1, 0, 4], []), none, none, some (.aload_n 0, [], []), some (.getfield 52, [11, 6, 1], []), none, none, some (.aload_n 0, [], []), some (.getfield 56, [11, 7, 1], []), none, none, some (.invokevirtual 334, [35, 1, 0, 5], []), none, none], [some (.aload_n 0, [], []), some (.getfield 62, [11, 8, 1], []), none, none, some (.invokevirtual 99, [0, 0, 0, 0], []), none, none, some (.aload_n 0, [], []), some (.getfield 39, [11, 2, 1], []), none, none, some (.getfield 95, [4, 6, 0], []), none, none, some (.ireturn, [], [])]], 1, 1, [])
-- WhirlShafts.count(I)I
def e_103 : q_E := ([[some (.iload_n 1, [], []), some (.tableswitch (129) (0) (8) #[51, 59, 67, 75, 92, 100, 108, 116, 124], [130], [(0, 52), (1, 60), (2, 68), (3, 76), (4, 93), (5, 101), (6, 109), (7, 117), (8, 125)]), none, none, none, none, none, none, none, none, none, none, none, none, none, none], [none, none, none, none, none, none, none, none, none, none, none, none, none, none, none, none], [none, none, none, none, none, none, none, none, none, none, none, none, none, none, none, none], [none, none, none, none, some (.aload_n 0, [], []), some (.getfield 39, [11, 2, 1], []), none, none, some (.getfield 95, [4, 6, 0], []), none, none, some (.ireturn, [], []), some (.aload_n 0, [], []), some (.getfield 39, [11, 2, 1], []), none, none], [some (.getfield 106, [4, 7, 0], []), none, none, some (.ireturn, [], []), some (.aload_n 0, [], []), some (.getfield 39, [11, 2, 1], []), none, none, some (.getfield 109, [4, 8, 0], []), none, none, some (.ireturn, [], []), some (.aload_n 0, [], []), some (.getfield 39, [11, 2, 1], []), none, none], [some (.aload_n 0, [], []), some (.getfield 39, [11, 2, 1], []), none, none, some (.getfield 95, [4, 6, 0], []), none, none, some (.iconst (1), [], [(1, 0)]), some (.isub, [], []), some (.invokevirtual 345, [25, 1, 1, 4], []), none, none, some (.ireturn, [], []), some (.aload_n 0, [], []), some (.getfield 52, [11, 6, 1], []), none], [none, some (.getfield 244, [5, 3, 0], []), none, none, some (.ireturn, [], []), some (.aload_n 0, [], []), some (.getfield 62, [11, 8, 1], []), none, none, some (.getfield 261, [0, 4, 0], []), none, none, some (.ireturn, [], []), some (.aload_n 0, [], []), some (.getfield 62, [11, 8, 1], []), none], [none, some (.getfield 268, [0, 5, 0], []), none, none, some (.ireturn, [], []), some (.aload_n 0, [], []), some (.getfield 76, [11, 10, 1], []), none, none, some (.getfield 274, [10, 1, 0], []), none, none, some (.ireturn, [], []), some (.aload_n 0, [], []), some (.invokevirtual 348, [111, 0, 1, 11], []), none], [none, some (.ireturn, [], []), some (.iconst (-1), [], [(-1, 0)]), some (.ireturn, [], [])]], 1, 2, [])
-- WhirlShafts.isKind(I)Z
def e_104 : q_E := ([[some (.iload_n 0, [], []), some (.ifCond .lt (15), [16], []), none, none, some (.iload_n 0, [], []), some (.getstatic 9, [102], []), none, none, some (.arraylength, [], []), some (.if_icmp .ge (7), [16], []), none, none, some (.iconst (1), [], [(1, 0)]), some (.goto (4), [17], []), none, none], [some (.iconst (0), [], [(0, 0)]), some (.ireturn, [], [])]], 2, 1, [])
-- WhirlShafts.inRange(II)Z
def e_105 : q_E := ([[some (.iload_n 1, [], []), some (.getstatic 351, [103], []), none, none, some (.iload_n 0, [], []), some (.iaload, [], []), some (.if_icmp .lt (16), [22], []), none, none, some (.iload_n 1, [], []), some (.getstatic 354, [104], []), none, none, some (.iload_n 0, [], []), some (.iaload, [], []), some (.if_icmp .gt (7), [22], [])], [none, none, some (.iconst (1), [], [(1, 0)]), some (.goto (4), [23], []), none, none, some (.iconst (0), [], [(0, 0)]), some (.ireturn, [], [])]], 2, 2, [])
-- WhirlShafts.isQ(I)Z
def e_106 : q_E := ([[some (.iload_n 0, [], []), some (.iconst (1), [], [(1, 0)]), some (.if_icmp .lt (13), [15], []), none, none, some (.iload_n 0, [], []), some (.bipush (16), [], [(16, 0)]), none, some (.if_icmp .gt (7), [15], []), none, none, some (.iconst (1), [], [(1, 0)]), some (.goto (4), [16], []), none, none, some (.iconst (0), [], [(0, 0)])], [some (.ireturn, [], [])]], 2, 1, [])
-- WhirlShafts.isPoint(II)Z
def e_107 : q_E := ([[some (.iload_n 0, [], []), some (.ifCond .lt (21), [22], []), none, none, some (.iload_n 0, [], []), some (.sipush (9999), [], [(9999, 0)]), none, none, some (.if_icmp .gt (14), [22], []), none, none, some (.iload_n 1, [], []), some (.invokestatic 182, [106, 1, 1], []), none, none, some (.ifCond .eq (7), [22], [])], [none, none, some (.iconst (1), [], [(1, 0)]), some (.goto (4), [23], []), none, none, some (.iconst (0), [], [(0, 0)]), some (.ireturn, [], [])]], 2, 2, [])
-- WhirlShafts.isBand(III)Z
def e_108 : q_E := ([[some (.iload_n 0, [], []), some (.iload_n 2, [], []), some (.invokestatic 158, [107, 2, 1], []), none, none, some (.ifCond .eq (20), [25], []), none, none, some (.iload_n 1, [], []), some (.iload_n 2, [], []), some (.invokestatic 158, [107, 2, 1], []), none, none, some (.ifCond .eq (12), [25], []), none, none], [some (.iload_n 0, [], []), some (.iload_n 1, [], []), some (.if_icmp .gt (7), [25], []), none, none, some (.iconst (1), [], [(1, 0)]), some (.goto (4), [26], []), none, none, some (.iconst (0), [], [(0, 0)]), some (.ireturn, [], [])]], 2, 3, [])
-- WhirlShafts.isRow(I)Z
def e_109 : q_E := ([[some (.iload_n 0, [], []), some (.ifCond .lt (12), [13], []), none, none, some (.iload_n 0, [], []), some (.iconst (3), [], [(3, 0)]), some (.if_icmp .ge (7), [13], []), none, none, some (.iconst (1), [], [(1, 0)]), some (.goto (4), [14], []), none, none, some (.iconst (0), [], [(0, 0)]), some (.ireturn, [], [])]], 2, 1, [])
-- WhirlShafts.isUnder(II)Z
def e_110 : q_E := ([[some (.iload_n 0, [], []), some (.istore_n 2, [], []), some (.iconst (0), [], [(0, 0)]), some (.istore_n 3, [], []), some (.iload_n 3, [], []), some (.getstatic 9, [102], []), none, none, some (.arraylength, [], []), some (.if_icmp .ge (26), [35], []), none, none, some (.iload_n 2, [], []), some (.ifCond .lt (22), [35], []), none, none], [some (.iload_n 2, [], []), some (.iload_n 1, [], []), some (.if_icmp .ne (5), [23], []), none, none, some (.iconst (1), [], [(1, 0)]), some (.ireturn, [], []), some (.getstatic 9, [102], []), none, none, some (.iload_n 2, [], []), some (.iaload, [], []), some (.istore_n 2, [], []), some (.iinc 3 (1), [], [(1, 0)]), none, none], [some (.goto (-28), [4], []), none, none, some (.iconst (0), [], [(0, 0)]), some (.ireturn, [], [])]], 2, 4, [(4, [1, 2, 3])])
-- WhirlShafts.rowsThere()I
def e_111 : q_E := ([[some (.iconst (0), [], [(0, 0)]), some (.istore_n 1, [], []), some (.iconst (0), [], [(0, 0)]), some (.istore_n 2, [], []), some (.iload_n 2, [], []), some (.iconst (3), [], [(3, 0)]), some (.if_icmp .ge (24), [30], []), none, none, some (.aload_n 0, [], []), some (.getfield 82, [11, 11, 1], []), none, none, some (.iload_n 2, [], []), some (.aaload, [], []), some (.invokevirtual 221, [48, 0, 1, 8], [])], [none, none, some (.ifCond .ne (6), [24], []), none, none, some (.iinc 1 (1), [], [(1, 0)]), none, none, some (.iinc 2 (1), [], [(1, 0)]), none, none, some (.goto (-23), [4], []), none, none, some (.iload_n 1, [], []), some (.ireturn, [], [])]], 1, 3, [(4, [0, 1, 2]), (15, [0, 1, 2])])
-- WhirlShafts.fenceBy(LWhirlShafts$Line;II)I
def e_112 : q_E := ([[some (.aload_n 0, [], []), some (.getfield 69, [11, 9, 1], []), none, none, some (.aload_n 1, [], []), some (.invokevirtual 161, [36, 1, 0, 6], []), none, none, some (.aload_n 0, [], []), some (.getfield 69, [11, 9, 1], []), none, none, some (.iload_n 2, [], []), some (.iload_n 3, [], []), some (.invokevirtual 196, [43, 2, 1, 6], []), none], [none, some (.ireturn, [], [])]], 1, 4, [])
-- WhirlShafts.fenceByMass(IIII)I
def e_113 : q_E := ([[some (.aload_n 0, [], []), some (.getfield 43, [11, 3, 1], []), none, none, some (.getfield 211, [4, 2, 1], []), none, none, some (.iload_n 1, [], []), some (.iload_n 2, [], []), some (.iastore, [], []), some (.aload_n 0, [], []), some (.aload_n 0, [], []), some (.getfield 43, [11, 3, 1], []), none, none, some (.iload_n 3, [], [])], [some (.iload 4, [], []), none, some (.invokevirtual 185, [112, 3, 1, 11], []), none, none, some (.ireturn, [], [])]], 1, 5, [])
-- WhirlShafts.leastMassWithin(IIII)I
def e_114 : q_E := ([[some (.iconst (0), [], [(0, 0)]), some (.istore 5, [], []), none, some (.bipush (64), [], [(64, 0)]), none, some (.istore 6, [], []), none, some (.iload 6, [], []), none, some (.ifCond .le (68), [77], []), none, none, some (.iload 5, [], []), none, some (.iload 6, [], []), none], [some (.iadd, [], []), some (.istore 7, [], []), none, some (.iload 7, [], []), none, some (.bipush (99), [], [(99, 0)]), none, some (.if_icmp .gt (45), [68], []), none, none, some (.aload_n 0, [], []), some (.getfield 43, [11, 3, 1], []), none, none, some (.getfield 211, [4, 2, 1], []), none], [none, some (.iload_n 1, [], []), some (.iload 7, [], []), none, some (.iastore, [], []), some (.aload_n 0, [], []), some (.getfield 69, [11, 9, 1], []), none, none, some (.aload_n 0, [], []), some (.getfield 43, [11, 3, 1], []), none, none, some (.invokevirtual 161, [36, 1, 0, 6], []), none, none], [some (.aload_n 0, [], []), some (.getfield 69, [11, 9, 1], []), none, none, some (.iload_n 3, [], []), some (.iconst (1), [], [(1, 0)]), some (.iadd, [], []), some (.iload 4, [], []), none, some (.invokevirtual 165, [37, 2, 1, 6], []), none, none, some (.iload_n 2, [], []), some (.if_icmp .gt (7), [68], []), none, none], [some (.iload 7, [], []), none, some (.istore 5, [], []), none, some (.iload 6, [], []), none, some (.iconst (1), [], [(1, 0)]), some (.ishr, [], []), some (.istore 6, [], []), none, some (.goto (-67), [7], []), none, none, some (.iload 5, [], []), none, some (.iconst (1), [], [(1, 0)])], [some (.iadd, [], []), some (.ireturn, [], [])]], 1, 8, [(7, [0, 1, 2, 3, 4, 5, 6])])
-- WhirlShafts.trialFits(LWhirlShafts$Row;II)Z
def e_115 : q_E := ([[some (.aload_n 0, [], []), some (.getfield 69, [11, 9, 1], []), none, none, some (.aload_n 0, [], []), some (.getfield 43, [11, 3, 1], []), none, none, some (.invokevirtual 161, [36, 1, 0, 6], []), none, none, some (.iconst (0), [], [(0, 0)]), some (.istore 4, [], []), none, some (.iload 4, [], []), none], [some (.iload_n 2, [], []), some (.if_icmp .ge (31), [48], []), none, none, some (.aload_n 0, [], []), some (.getfield 69, [11, 9, 1], []), none, none, some (.iload 4, [], []), none, some (.iload_n 3, [], []), some (.aload_n 1, [], []), some (.getfield 236, [8, 0, 1], []), none, none, some (.iload 4, [], [])], [none, some (.laload, [], []), some (.invokevirtual 240, [44, 3, 1, 6], []), none, none, some (.ifCond .ne (5), [42], []), none, none, some (.iconst (0), [], [(0, 0)]), some (.ireturn, [], []), some (.iinc 4 (1), [], [(1, 0)]), none, none, some (.goto (-31), [14], []), none, none], [some (.iconst (1), [], [(1, 0)]), some (.ireturn, [], [])]], 2, 5, [(14, [0, 1, 2, 3, 4])])
-- WhirlShafts.massesThatFit(LWhirlShafts$Row;IIIZ)I
def e_116 : q_E := ([[some (.iconst (0), [], [(0, 0)]), some (.istore 6, [], []), none, some (.iconst (1), [], [(1, 0)]), some (.istore 7, [], []), none, some (.iload 7, [], []), none, some (.bipush (99), [], [(99, 0)]), none, some (.if_icmp .gt (42), [52], []), none, none, some (.aload_n 0, [], []), some (.getfield 43, [11, 3, 1], []), none], [none, some (.getfield 211, [4, 2, 1], []), none, none, some (.iload 4, [], []), none, some (.iload 7, [], []), none, some (.iastore, [], []), some (.aload_n 0, [], []), some (.aload_n 1, [], []), some (.iload_n 2, [], []), some (.iload_n 3, [], []), some (.invokevirtual 357, [115, 3, 1, 11], []), none, none], [some (.ifCond .eq (14), [46], []), none, none, some (.iload 5, [], []), none, some (.ifCond .eq (6), [43], []), none, none, some (.iload 7, [], []), none, some (.ireturn, [], []), some (.iinc 6 (1), [], [(1, 0)]), none, none, some (.iinc 7 (1), [], [(1, 0)]), none], [none, some (.goto (-43), [6], []), none, none, some (.iload 5, [], []), none, some (.ifCond .eq (8), [62], []), none, none, some (.bipush (-2), [], [(-2, 0)]), none, some (.goto (5), [64], []), none, none, some (.iload 6, [], []), none], [some (.ireturn, [], [])]], 1, 8, [(6, [0, 1, 2, 3, 4, 5, 6, 7])])
-- WhirlShafts.kindsThatFit(LWhirlShafts$Row;III)I
def e_117 : q_E := ([[some (.iconst (0), [], [(0, 0)]), some (.istore 5, [], []), none, some (.iconst (0), [], [(0, 0)]), some (.istore 6, [], []), none, some (.iload 6, [], []), none, some (.getstatic 9, [102], []), none, none, some (.arraylength, [], []), some (.if_icmp .ge (40), [52], []), none, none, some (.aload_n 0, [], [])], [some (.getfield 43, [11, 3, 1], []), none, none, some (.getfield 140, [4, 1, 1], []), none, none, some (.iload 4, [], []), none, some (.iload 6, [], []), none, some (.iastore, [], []), some (.aload_n 0, [], []), some (.aload_n 1, [], []), some (.iload_n 2, [], []), some (.iload_n 3, [], []), some (.invokevirtual 357, [115, 3, 1, 11], [])], [none, none, some (.ifCond .eq (12), [46], []), none, none, some (.iload 5, [], []), none, some (.iconst (1), [], [(1, 0)]), some (.iload 6, [], []), none, some (.ishl, [], []), some (.ior, [], []), some (.istore 5, [], []), none, some (.iinc 6 (1), [], [(1, 0)]), none], [none, some (.goto (-43), [6], []), none, none, some (.iload 5, [], []), none, some (.ireturn, [], [])]], 1, 7, [(6, [0, 1, 2, 3, 4, 5, 6])])
-- WhirlShafts.doActs()I
def e_118 : q_E := ([[some (.iconst (0), [], [(0, 0)]), some (.istore_n 1, [], []), some (.aload_n 0, [], []), some (.getfield 76, [11, 10, 1], []), none, none, some (.iconst (0), [], [(0, 0)]), some (.putfield 361, [10, 2, 0], []), none, none, some (.iconst (0), [], [(0, 0)]), some (.istore_n 2, [], []), some (.iload_n 2, [], []), some (.bipush (80), [], [(80, 0)]), none, some (.if_icmp .ge (49), [64], [])], [none, none, some (.aload_n 0, [], []), some (.getfield 76, [11, 10, 1], []), none, none, some (.getfield 361, [10, 2, 0], []), none, none, some (.aload_n 0, [], []), some (.getfield 76, [11, 10, 1], []), none, none, some (.getfield 274, [10, 1, 0], []), none, none], [some (.if_icmp .ge (32), [64], []), none, none, some (.aload_n 0, [], []), some (.aload_n 0, [], []), some (.getfield 76, [11, 10, 1], []), none, none, some (.invokevirtual 364, [59, 0, 1, 10], []), none, none, some (.invokevirtual 367, [119, 1, 1, 11], []), none, none, some (.ifCond .ge (9), [55], []), none], [none, some (.sipush (-200), [], [(-200, 0)]), none, none, some (.iload_n 1, [], []), some (.isub, [], []), some (.ireturn, [], []), some (.iinc 1 (1), [], [(1, 0)]), none, none, some (.iinc 2 (1), [], [(1, 0)]), none, none, some (.goto (-49), [12], []), none, none], [some (.iload_n 1, [], []), some (.ireturn, [], [])]], 1, 3, [(12, [0, 1, 2])])
-- WhirlShafts.doAct(I)I
def e_119 : q_E := ([[some (.aload_n 0, [], []), some (.getfield 76, [11, 10, 1], []), none, none, some (.getfield 370, [10, 3, 1], []), none, none, some (.astore_n 2, [], []), some (.iload_n 1, [], []), some (.tableswitch (185) (98) (119) #[141, 185, 103, 185, 185, 153, 185, 117, 185, 129, 185, 185, 165, 185, 185, 185, 185, 185, 185, 185, 185, 175], [194], [(98, 150), (99, 194), (100, 112), (101, 194), (102, 194), (103, 162), (104, 194), (105, 126), (106, 194), (107, 138), (108, 194), (109, 194), (110, 174), (111, 194), (112, 194), (113, 194), (114, 194), (115, 194), (116, 194), (117, 194), (118, 194), (119, 184)]), none, none, none, none, none, none], [none, none, none, none, none, none, none, none, none, none, none, none, none, none, none, none], [none, none, none, none, none, none, none, none, none, none, none, none, none, none, none, none], [none, none, none, none, none, none, none, none, none, none, none, none, none, none, none, none], [none, none, none, none, none, none, none, none, none, none, none, none, none, none, none, none], [none, none, none, none, none, none, none, none, none, none, none, none, none, none, none, none], [none, none, none, none, none, none, none, none, none, none, none, none, none, none, none, none], [some (.aload_n 0, [], []), some (.aload_n 2, [], []), some (.iconst (0), [], [(0, 0)]), some (.iaload, [], []), some (.aload_n 2, [], []), some (.iconst (1), [], [(1, 0)]), some (.iaload, [], []), some (.aload_n 2, [], []), some (.iconst (2), [], [(2, 0)]), some (.iaload, [], []), some (.invokevirtual 373, [61, 3, 1, 11], []), none, none, some (.ireturn, [], []), some (.aload_n 0, [], []), some (.iconst (0), [], [(0, 0)])], [some (.aload_n 2, [], []), some (.iconst (0), [], [(0, 0)]), some (.iaload, [], []), some (.aload_n 2, [], []), some (.iconst (1), [], [(1, 0)]), some (.iaload, [], []), some (.invokevirtual 258, [64, 3, 1, 11], []), none, none, some (.ireturn, [], []), some (.aload_n 0, [], []), some (.iconst (1), [], [(1, 0)]), some (.aload_n 2, [], []), some (.iconst (0), [], [(0, 0)]), some (.iaload, [], []), some (.aload_n 2, [], [])], [some (.iconst (1), [], [(1, 0)]), some (.iaload, [], []), some (.invokevirtual 258, [64, 3, 1, 11], []), none, none, some (.ireturn, [], []), some (.aload_n 0, [], []), some (.iconst (2), [], [(2, 0)]), some (.aload_n 2, [], []), some (.iconst (0), [], [(0, 0)]), some (.iaload, [], []), some (.aload_n 2, [], []), some (.iconst (1), [], [(1, 0)]), some (.iaload, [], []), some (.invokevirtual 258, [64, 3, 1, 11], []), none], [none, some (.ireturn, [], []), some (.aload_n 0, [], []), some (.iconst (3), [], [(3, 0)]), some (.aload_n 2, [], []), some (.iconst (0), [], [(0, 0)]), some (.iaload, [], []), some (.aload_n 2, [], []), some (.iconst (1), [], [(1, 0)]), some (.iaload, [], []), some (.invokevirtual 258, [64, 3, 1, 11], []), none, none, some (.ireturn, [], []), some (.aload_n 0, [], []), some (.iconst (4), [], [(4, 0)])], [some (.iconst (0), [], [(0, 0)]), some (.aload_n 2, [], []), some (.iconst (0), [], [(0, 0)]), some (.iaload, [], []), some (.invokevirtual 258, [64, 3, 1, 11], []), none, none, some (.ireturn, [], []), some (.aload_n 0, [], []), some (.iconst (5), [], [(5, 0)]), some (.iconst (0), [], [(0, 0)]), some (.aload_n 2, [], []), some (.iconst (0), [], [(0, 0)]), some (.iaload, [], []), some (.invokevirtual 258, [64, 3, 1, 11], []), none], [none, some (.ireturn, [], []), some (.aload_n 0, [], []), some (.invokevirtual 376, [62, 0, 1, 11], []), none, none, some (.ireturn, [], [])]], 1, 3, [])
-- WhirlShaftsModel.isIn(III)Z
def e_120 : q_E := ([[some (.iload_n 0, [], []), some (.iload_n 1, [], []), some (.if_icmp .lt (12), [14], []), none, none, some (.iload_n 0, [], []), some (.iload_n 2, [], []), some (.if_icmp .gt (7), [14], []), none, none, some (.iconst (1), [], [(1, 0)]), some (.goto (4), [15], []), none, none, some (.iconst (0), [], [(0, 0)]), some (.ireturn, [], [])]], 2, 3, [])
-- WhirlShaftsModel.isDisc(I)Z
def e_121 : q_E := ([[some (.iload_n 1, [], []), some (.iconst (0), [], [(0, 0)]), some (.aload_n 0, [], []), some (.getfield 119, [12, 0, 0], []), none, none, some (.iconst (1), [], [(1, 0)]), some (.isub, [], []), some (.invokestatic 122, [120, 3, 1], []), none, none, some (.ireturn, [], [])]], 2, 2, [])
-- WhirlShaftsModel.isShaft(I)Z
def e_122 : q_E := ([[some (.iload_n 1, [], []), some (.iconst (0), [], [(0, 0)]), some (.aload_n 0, [], []), some (.getfield 119, [12, 0, 0], []), none, none, some (.iconst (2), [], [(2, 0)]), some (.isub, [], []), some (.invokestatic 122, [120, 3, 1], []), none, none, some (.ireturn, [], [])]], 2, 2, [])
-- WhirlShaftsModel.isBy(I)Z
def e_123 : q_E := ([[some (.iload_n 0, [], []), some (.iconst (1), [], [(1, 0)]), some (.bipush (16), [], [(16, 0)]), none, some (.invokestatic 122, [120, 3, 1], []), none, none, some (.ireturn, [], [])]], 2, 1, [])
-- WhirlShaftsModel.isRateOf(II)Z
def e_124 : q_E := ([[some (.iload_n 0, [], []), some (.iconst (0), [], [(0, 0)]), some (.sipush (9999), [], [(9999, 0)]), none, none, some (.invokestatic 122, [120, 3, 1], []), none, none, some (.ifCond .eq (14), [22], []), none, none, some (.iload_n 1, [], []), some (.invokestatic 126, [123, 1, 1], []), none, none, some (.ifCond .eq (7), [22], [])], [none, none, some (.iconst (1), [], [(1, 0)]), some (.goto (4), [23], []), none, none, some (.iconst (0), [], [(0, 0)]), some (.ireturn, [], [])]], 2, 2, [])
-- WhirlShaftsModel.weighs(I)I
def e_125 : q_E := ([[some (.aload_n 0, [], []), some (.getfield 15, [12, 4, 1], []), none, none, some (.iload_n 1, [], []), some (.iaload, [], []), some (.iconst (1), [], [(1, 0)]), some (.iadd, [], []), some (.iconst (2), [], [(2, 0)]), some (.idiv, [], []), some (.istore_n 2, [], []), some (.aload_n 0, [], []), some (.getfield 9, [12, 3, 1], []), none, none, some (.iload_n 1, [], [])], [some (.iaload, [], []), some (.tableswitch (78) (1) (4) #[31, 40, 42, 53], [95], [(1, 48), (2, 57), (3, 59), (4, 70)]), none, none, none, none, none, none, none, none, none, none, none, none, none, none], [none, none, none, none, none, none, none, none, none, none, none, none, none, none, none, none], [some (.iconst (2), [], [(2, 0)]), some (.aload_n 0, [], []), some (.getfield 15, [12, 4, 1], []), none, none, some (.iload_n 1, [], []), some (.iaload, [], []), some (.imul, [], []), some (.ireturn, [], []), some (.iload_n 2, [], []), some (.ireturn, [], []), some (.iconst (2), [], [(2, 0)]), some (.aload_n 0, [], []), some (.getfield 15, [12, 4, 1], []), none, none], [some (.iload_n 1, [], []), some (.iaload, [], []), some (.imul, [], []), some (.iconst (3), [], [(3, 0)]), some (.iadd, [], []), some (.ireturn, [], []), some (.iload_n 2, [], []), some (.aload_n 0, [], []), some (.getfield 130, [12, 1, 0], []), none, none, some (.iconst (2), [], [(2, 0)]), some (.idiv, [], []), some (.isub, [], []), some (.iconst (1), [], [(1, 0)]), some (.if_icmp .ge (7), [86], [])], [none, none, some (.iconst (1), [], [(1, 0)]), some (.goto (11), [94], []), none, none, some (.iload_n 2, [], []), some (.aload_n 0, [], []), some (.getfield 130, [12, 1, 0], []), none, none, some (.iconst (2), [], [(2, 0)]), some (.idiv, [], []), some (.isub, [], []), some (.ireturn, [], []), some (.aload_n 0, [], [])], [some (.getfield 15, [12, 4, 1], []), none, none, some (.iload_n 1, [], []), some (.iaload, [], []), some (.ireturn, [], [])]], 1, 3, [])
-- WhirlShaftsModel.reduces()V
def e_126 : q_E := ([[some (.iconst (1), [], [(1, 0)]), some (.istore_n 1, [], []), some (.iconst (0), [], [(0, 0)]), some (.istore_n 2, [], []), some (.iload_n 2, [], []), some (.aload_n 0, [], []), some (.getfield 119, [12, 0, 0], []), none, none, some (.if_icmp .ge (193), [202], []), none, none, some (.aload_n 0, [], []), some (.iload_n 2, [], []), some (.invokevirtual 133, [125, 1, 1, 12], []), none], [none, some (.istore_n 3, [], []), some (.aload_n 0, [], []), some (.getfield 27, [12, 8, 1], []), none, none, some (.iload_n 2, [], []), some (.iload_n 1, [], []), some (.iload_n 1, [], []), some (.imul, [], []), some (.iastore, [], []), some (.aload_n 0, [], []), some (.getfield 30, [12, 9, 1], []), none, none, some (.iload_n 2, [], [])], [some (.aload_n 0, [], []), some (.getfield 27, [12, 8, 1], []), none, none, some (.iload_n 2, [], []), some (.iaload, [], []), some (.aload_n 0, [], []), some (.getfield 137, [12, 2, 0], []), none, none, some (.iconst (1), [], [(1, 0)]), some (.if_icmp .ne (17), [60], []), none, none, some (.iload_n 3, [], []), some (.iload_n 3, [], [])], [some (.aload_n 0, [], []), some (.getfield 130, [12, 1, 0], []), none, none, some (.imul, [], []), some (.bipush (20), [], [(20, 0)]), none, some (.idiv, [], []), some (.isub, [], []), some (.goto (26), [83], []), none, none, some (.aload_n 0, [], []), some (.getfield 137, [12, 2, 0], []), none, none], [some (.iconst (2), [], [(2, 0)]), some (.if_icmp .ne (17), [82], []), none, none, some (.iload_n 3, [], []), some (.iload_n 3, [], []), some (.aload_n 0, [], []), some (.getfield 130, [12, 1, 0], []), none, none, some (.imul, [], []), some (.bipush (10), [], [(10, 0)]), none, some (.idiv, [], []), some (.iadd, [], []), some (.goto (4), [83], [])], [none, none, some (.iload_n 3, [], []), some (.imul, [], []), some (.iastore, [], []), some (.aload_n 0, [], []), some (.getfield 33, [12, 10, 1], []), none, none, some (.iload_n 2, [], []), some (.aload_n 0, [], []), some (.getfield 27, [12, 8, 1], []), none, none, some (.iload_n 2, [], []), some (.iaload, [], [])], [some (.aload_n 0, [], []), some (.getfield 18, [12, 5, 1], []), none, none, some (.iload_n 2, [], []), some (.iaload, [], []), some (.imul, [], []), some (.iastore, [], []), some (.aload_n 0, [], []), some (.getfield 36, [12, 11, 1], []), none, none, some (.iload_n 2, [], []), some (.iload_n 2, [], []), some (.aload_n 0, [], []), some (.getfield 119, [12, 0, 0], [])], [none, none, some (.iconst (1), [], [(1, 0)]), some (.isub, [], []), some (.if_icmp .ge (19), [135], []), none, none, some (.aload_n 0, [], []), some (.getfield 27, [12, 8, 1], []), none, none, some (.iload_n 2, [], []), some (.iaload, [], []), some (.aload_n 0, [], []), some (.getfield 21, [12, 6, 1], []), none], [none, some (.iload_n 2, [], []), some (.iaload, [], []), some (.imul, [], []), some (.goto (4), [136], []), none, none, some (.iconst (0), [], [(0, 0)]), some (.iastore, [], []), some (.aload_n 0, [], []), some (.getfield 39, [12, 12, 1], []), none, none, some (.iload_n 2, [], []), some (.aload_n 0, [], []), some (.getfield 33, [12, 10, 1], [])], [none, none, some (.iload_n 2, [], []), some (.iaload, [], []), some (.aload_n 0, [], []), some (.getfield 36, [12, 11, 1], []), none, none, some (.iload_n 2, [], []), some (.iaload, [], []), some (.iadd, [], []), some (.iload_n 2, [], []), some (.ifCond .le (14), [170], []), none, none, some (.aload_n 0, [], [])], [some (.getfield 36, [12, 11, 1], []), none, none, some (.iload_n 2, [], []), some (.iconst (1), [], [(1, 0)]), some (.isub, [], []), some (.iaload, [], []), some (.goto (4), [171], []), none, none, some (.iconst (0), [], [(0, 0)]), some (.iadd, [], []), some (.iastore, [], []), some (.iload_n 1, [], []), some (.iload_n 2, [], []), some (.aload_n 0, [], [])], [some (.getfield 119, [12, 0, 0], []), none, none, some (.iconst (1), [], [(1, 0)]), some (.isub, [], []), some (.if_icmp .ge (12), [193], []), none, none, some (.aload_n 0, [], []), some (.getfield 24, [12, 7, 1], []), none, none, some (.iload_n 2, [], []), some (.iaload, [], []), some (.goto (4), [194], []), none], [none, some (.iconst (1), [], [(1, 0)]), some (.imul, [], []), some (.istore_n 1, [], []), some (.iinc 2 (1), [], [(1, 0)]), none, none, some (.goto (-195), [4], []), none, none, some (.return_, [], [])]], 0, 4, [(4, [0, 1, 2]), (83, [0, 1, 2]), (136, [0, 1, 2]), (171, [0, 1, 2])])
-- WhirlShaftsModel.turnsInAll()I
def e_127 : q_E := ([[some (.iconst (1), [], [(1, 0)]), some (.istore_n 1, [], []), some (.iconst (0), [], [(0, 0)]), some (.istore_n 2, [], []), some (.iload_n 2, [], []), some (.aload_n 0, [], []), some (.getfield 119, [12, 0, 0], []), none, none, some (.iconst (1), [], [(1, 0)]), some (.isub, [], []), some (.if_icmp .ge (18), [29], []), none, none, some (.iload_n 1, [], []), some (.aload_n 0, [], [])], [some (.getfield 24, [12, 7, 1], []), none, none, some (.iload_n 2, [], []), some (.iaload, [], []), some (.imul, [], []), some (.istore_n 1, [], []), some (.iinc 2 (1), [], [(1, 0)]), none, none, some (.goto (-22), [4], []), none, none, some (.iload_n 1, [], []), some (.ireturn, [], [])]], 1, 3, [(4, [0, 1, 2])])
-- WhirlShaftsModel.signAt(I)I
def e_128 : q_E := ([[some (.aload_n 0, [], []), some (.getfield 42, [12, 13, 1], []), none, none, some (.iload_n 1, [], []), some (.bipush (10), [], [(10, 0)]), none, some (.iadd, [], []), some (.iconst (1), [], [(1, 0)]), some (.isub, [], []), some (.laload, [], []), some (.lconst 0, [], []), some (.lcmp, [], []), some (.ifCond .ge (5), [18], []), none, none], [some (.iconst (-1), [], [(-1, 0)]), some (.ireturn, [], []), some (.iconst (0), [], [(0, 0)]), some (.istore_n 2, [], []), some (.iconst (0), [], [(0, 0)]), some (.istore_n 3, [], []), some (.iload_n 3, [], []), some (.bipush (10), [], [(10, 0)]), none, some (.if_icmp .ge (30), [55], []), none, none, some (.iload_n 2, [], []), some (.aload_n 0, [], []), some (.getfield 42, [12, 13, 1], []), none], [none, some (.iload_n 1, [], []), some (.iload_n 3, [], []), some (.iadd, [], []), some (.laload, [], []), some (.lconst 0, [], []), some (.lcmp, [], []), some (.ifCond .eq (7), [46], []), none, none, some (.iconst (1), [], [(1, 0)]), some (.goto (4), [47], []), none, none, some (.iconst (0), [], [(0, 0)]), some (.ior, [], [])], [some (.istore_n 2, [], []), some (.iinc 3 (1), [], [(1, 0)]), none, none, some (.goto (-30), [22], []), none, none, some (.iload_n 2, [], []), some (.ifCond .eq (7), [63], []), none, none, some (.iconst (1), [], [(1, 0)]), some (.goto (4), [64], []), none, none, some (.iconst (0), [], [(0, 0)])], [some (.ireturn, [], [])]], 1, 4, [(22, [0, 1, 2, 3])])
-- WhirlShaftsModel.restOf(J)I
def e_129 : q_E := ([[some (.lload_n 0, [], []), some (.ldc2_w 140, [10007], []), none, none, some (.lrem, [], []), some (.ldc2_w 140, [10007], []), none, none, some (.ladd, [], []), some (.ldc2_w 140, [10007], []), none, none, some (.lrem, [], []), some (.l2i, [], []), some (.ireturn, [], [])]], 1, 2, [])
-- WhirlShaftsModel.transfer(IIII)I
def e_130 : q_E := ([[some (.iconst (0), [], [(0, 0)]), some (.istore 5, [], []), none, some (.iload 5, [], []), none, some (.bipush (30), [], [(30, 0)]), none, some (.if_icmp .ge (17), [24], []), none, none, some (.aload_n 0, [], []), some (.getfield 42, [12, 13, 1], []), none, none, some (.iload 5, [], []), none], [some (.lconst 0, [], []), some (.lastore, [], []), some (.iinc 5 (1), [], [(1, 0)]), none, none, some (.goto (-18), [3], []), none, none, some (.aload_n 0, [], []), some (.getfield 42, [12, 13, 1], []), none, none, some (.iconst (0), [], [(0, 0)]), some (.lconst 1, [], []), some (.lastore, [], []), some (.aload_n 0, [], [])], [some (.getfield 46, [12, 14, 1], []), none, none, some (.iconst (0), [], [(0, 0)]), some (.iconst (1), [], [(1, 0)]), some (.iastore, [], []), some (.aload_n 0, [], []), some (.getfield 49, [12, 15, 1], []), none, none, some (.iconst (0), [], [(0, 0)]), some (.iconst (1), [], [(1, 0)]), some (.iastore, [], []), some (.iconst (0), [], [(0, 0)]), some (.istore 5, [], []), none], [some (.iconst (1), [], [(1, 0)]), some (.istore 6, [], []), none, some (.iload_n 1, [], []), some (.istore 7, [], []), none, some (.iload 7, [], []), none, some (.iload_n 2, [], []), some (.if_icmp .gt (318), [375], []), none, none, some (.iload 7, [], []), none, some (.iload_n 1, [], []), some (.isub, [], [])], [some (.iconst (1), [], [(1, 0)]), some (.iadd, [], []), some (.istore 8, [], []), none, some (.iload 4, [], []), none, some (.i2l, [], []), some (.aload_n 0, [], []), some (.getfield 39, [12, 12, 1], []), none, none, some (.iload 7, [], []), none, some (.iaload, [], []), some (.i2l, [], []), some (.lmul, [], [])], [some (.iload_n 3, [], []), some (.i2l, [], []), some (.aload_n 0, [], []), some (.getfield 30, [12, 9, 1], []), none, none, some (.iload 7, [], []), none, some (.iaload, [], []), some (.i2l, [], []), some (.lmul, [], []), some (.lsub, [], []), some (.lstore 9, [], []), none, some (.iload 7, [], []), none], [some (.iload_n 1, [], []), some (.if_icmp .ne (7), [104], []), none, none, some (.lconst 0, [], []), some (.goto (32), [133], []), none, none, some (.iload 4, [], []), none, some (.i2l, [], []), some (.iload 4, [], []), none, some (.i2l, [], []), some (.lmul, [], []), some (.aload_n 0, [], [])], [some (.getfield 36, [12, 11, 1], []), none, none, some (.iload 7, [], []), none, some (.iconst (1), [], [(1, 0)]), some (.isub, [], []), some (.iaload, [], []), some (.i2l, [], []), some (.lmul, [], []), some (.aload_n 0, [], []), some (.getfield 36, [12, 11, 1], []), none, none, some (.iload 7, [], []), none], [some (.iconst (1), [], [(1, 0)]), some (.isub, [], []), some (.iaload, [], []), some (.i2l, [], []), some (.lmul, [], []), some (.lstore 11, [], []), none, some (.bipush (10), [], [(10, 0)]), none, some (.iload 8, [], []), none, some (.iconst (3), [], [(3, 0)]), some (.irem, [], []), some (.imul, [], []), some (.istore 13, [], []), none], [some (.bipush (10), [], [(10, 0)]), none, some (.iload 8, [], []), none, some (.iconst (2), [], [(2, 0)]), some (.iadd, [], []), some (.iconst (3), [], [(3, 0)]), some (.irem, [], []), some (.imul, [], []), some (.istore 14, [], []), none, some (.bipush (10), [], [(10, 0)]), none, some (.iload 8, [], []), none, some (.iconst (1), [], [(1, 0)])], [some (.iadd, [], []), some (.iconst (3), [], [(3, 0)]), some (.irem, [], []), some (.imul, [], []), some (.istore 15, [], []), none, some (.lconst 0, [], []), some (.lstore 16, [], []), none, some (.iconst (0), [], [(0, 0)]), some (.istore 18, [], []), none, some (.iload 18, [], []), none, some (.bipush (10), [], [(10, 0)]), none], [some (.if_icmp .ge (76), [252], []), none, none, some (.lload 9, [], []), none, some (.aload_n 0, [], []), some (.getfield 42, [12, 13, 1], []), none, none, some (.iload 14, [], []), none, some (.iload 18, [], []), none, some (.iadd, [], []), some (.laload, [], []), some (.lmul, [], [])], [some (.lload 11, [], []), none, some (.aload_n 0, [], []), some (.getfield 42, [12, 13, 1], []), none, none, some (.iload 15, [], []), none, some (.iload 18, [], []), none, some (.iadd, [], []), some (.laload, [], []), some (.lmul, [], []), some (.lsub, [], []), some (.lload 16, [], []), none], [some (.ladd, [], []), some (.lstore 19, [], []), none, some (.lload 19, [], []), none, some (.bipush (28), [], [(28, 0)]), none, some (.lshr, [], []), some (.lstore 16, [], []), none, some (.aload_n 0, [], []), some (.getfield 42, [12, 13, 1], []), none, none, some (.iload 13, [], []), none], [some (.iload 18, [], []), none, some (.iadd, [], []), some (.iload 18, [], []), none, some (.bipush (9), [], [(9, 0)]), none, some (.if_icmp .ne (8), [239], []), none, none, some (.lload 19, [], []), none, some (.goto (9), [245], []), none, none, some (.lload 19, [], [])], [none, some (.ldc2_w 142, [268435455], []), none, none, some (.land, [], []), some (.lastore, [], []), some (.iinc 18 (1), [], [(1, 0)]), none, none, some (.goto (-77), [172], []), none, none, some (.aload_n 0, [], []), some (.getfield 46, [12, 14, 1], []), none, none], [some (.iload 8, [], []), none, some (.aload_n 0, [], []), some (.iload 13, [], []), none, some (.invokevirtual 144, [128, 1, 1, 12], []), none, none, some (.iastore, [], []), some (.lload 9, [], []), none, some (.invokestatic 147, [129, 1, 1], []), none, none, some (.i2l, [], []), some (.aload_n 0, [], [])], [some (.getfield 49, [12, 15, 1], []), none, none, some (.iload 8, [], []), none, some (.iconst (1), [], [(1, 0)]), some (.isub, [], []), some (.iaload, [], []), some (.i2l, [], []), some (.lmul, [], []), some (.lstore 18, [], []), none, some (.iload 8, [], []), none, some (.iconst (1), [], [(1, 0)]), some (.if_icmp .le (25), [312], [])], [none, none, some (.lload 18, [], []), none, some (.lload 11, [], []), none, some (.invokestatic 147, [129, 1, 1], []), none, none, some (.i2l, [], []), some (.aload_n 0, [], []), some (.getfield 49, [12, 15, 1], []), none, none, some (.iload 8, [], []), none], [some (.iconst (2), [], [(2, 0)]), some (.isub, [], []), some (.iaload, [], []), some (.i2l, [], []), some (.lmul, [], []), some (.lsub, [], []), some (.lstore 18, [], []), none, some (.aload_n 0, [], []), some (.getfield 49, [12, 15, 1], []), none, none, some (.iload 8, [], []), none, some (.lload 18, [], []), none], [some (.invokestatic 147, [129, 1, 1], []), none, none, some (.iastore, [], []), some (.aload_n 0, [], []), some (.getfield 46, [12, 14, 1], []), none, none, some (.iload 8, [], []), none, some (.iaload, [], []), some (.ifCond .ne (8), [339], []), none, none, some (.iload 6, [], []), none], [some (.goto (10), [346], []), none, none, some (.aload_n 0, [], []), some (.getfield 46, [12, 14, 1], []), none, none, some (.iload 8, [], []), none, some (.iaload, [], []), some (.istore 20, [], []), none, some (.iload 5, [], []), none, some (.iload 20, [], []), none], [some (.iload 6, [], []), none, some (.if_icmp .ne (7), [361], []), none, none, some (.iconst (0), [], [(0, 0)]), some (.goto (4), [362], []), none, none, some (.iconst (1), [], [(1, 0)]), some (.iadd, [], []), some (.istore 5, [], []), none, some (.iload 20, [], []), none, some (.istore 6, [], [])], [none, some (.iinc 7 (1), [], [(1, 0)]), none, none, some (.goto (-318), [54], []), none, none, some (.iload 5, [], []), none, some (.ireturn, [], [])]], 1, 21, [(3, [0, 1, 2, 3, 4, 5]), (54, [0, 1, 2, 3, 4, 5, 6, 7]), (133, [0, 1, 2, 3, 4, 5, 6, 7, 8, 9]), (172, [0, 1, 2, 3, 4, 5, 6, 7, 8, 9, 11, 13, 14, 15, 16, 18]), (312, [0, 1, 2, 3, 4, 5, 6, 7, 8, 18]), (346, [0, 1, 2, 3, 4, 5, 6, 7])])
-- WhirlShaftsModel.belowAll(II)I
def e_131 : q_E := ([[some (.aload_n 0, [], []), some (.iconst (0), [], [(0, 0)]), some (.aload_n 0, [], []), some (.getfield 119, [12, 0, 0], []), none, none, some (.iconst (1), [], [(1, 0)]), some (.isub, [], []), some (.iload_n 1, [], []), some (.iload_n 2, [], []), some (.invokevirtual 151, [130, 4, 1, 12], []), none, none, some (.ireturn, [], [])]], 1, 3, [])
-- WhirlShaftsModel.topNow()I
def e_132 : q_E := ([[some (.iconst (-1), [], [(-1, 0)]), some (.istore_n 1, [], []), some (.iconst (0), [], [(0, 0)]), some (.istore_n 2, [], []), some (.iload_n 2, [], []), some (.aload_n 0, [], []), some (.getfield 119, [12, 0, 0], []), none, none, some (.if_icmp .ge (36), [45], []), none, none, some (.iconst (2), [], [(2, 0)]), some (.aload_n 0, [], []), some (.getfield 39, [12, 12, 1], []), none], [none, some (.iload_n 2, [], []), some (.iaload, [], []), some (.imul, [], []), some (.aload_n 0, [], []), some (.getfield 30, [12, 9, 1], []), none, none, some (.iload_n 2, [], []), some (.iaload, [], []), some (.idiv, [], []), some (.istore_n 3, [], []), some (.iload_n 3, [], []), some (.iload_n 1, [], []), some (.if_icmp .le (7), [37], []), none], [none, some (.iload_n 3, [], []), some (.goto (4), [38], []), none, none, some (.iload_n 1, [], []), some (.istore_n 1, [], []), some (.iinc 2 (1), [], [(1, 0)]), none, none, some (.goto (-38), [4], []), none, none, some (.iload_n 1, [], []), some (.iconst (1), [], [(1, 0)]), some (.iadd, [], [])], [some (.ireturn, [], [])]], 1, 4, [(4, [0, 1, 2])])
-- WhirlShaftsModel.fenceOf(II)I
def e_133 : q_E := ([[some (.aload_n 0, [], []), some (.invokevirtual 155, [126, 0, 0, 12], []), none, none, some (.iconst (0), [], [(0, 0)]), some (.istore_n 3, [], []), some (.aload_n 0, [], []), some (.invokevirtual 158, [132, 0, 1, 12], []), none, none, some (.iload_n 2, [], []), some (.imul, [], []), some (.istore 4, [], []), none, some (.iload_n 3, [], []), some (.iload 4, [], [])], [none, some (.if_icmp .ge (41), [58], []), none, none, some (.iload_n 3, [], []), some (.iload 4, [], []), none, some (.iload_n 3, [], []), some (.isub, [], []), some (.iconst (1), [], [(1, 0)]), some (.iadd, [], []), some (.iconst (2), [], [(2, 0)]), some (.idiv, [], []), some (.iadd, [], []), some (.istore 5, [], []), none], [some (.aload_n 0, [], []), some (.iload 5, [], []), none, some (.iload_n 2, [], []), some (.invokevirtual 162, [131, 2, 1, 12], []), none, none, some (.iload_n 1, [], []), some (.if_icmp .gt (9), [49], []), none, none, some (.iload 5, [], []), none, some (.istore_n 3, [], []), some (.goto (9), [55], []), none], [none, some (.iload 5, [], []), none, some (.iconst (1), [], [(1, 0)]), some (.isub, [], []), some (.istore 4, [], []), none, some (.goto (-41), [14], []), none, none, some (.iload_n 3, [], []), some (.ireturn, [], [])]], 1, 6, [(14, [0, 1, 2, 3, 4])])
-- WhirlShaftsModel.forgetsChanges()V
def e_134 : q_E := ([[some (.aload_n 0, [], []), some (.iconst (0), [], [(0, 0)]), some (.putfield 166, [12, 20, 0], []), none, none, some (.aload_n 0, [], []), some (.iconst (0), [], [(0, 0)]), some (.putfield 169, [12, 21, 0], []), none, none, some (.return_, [], [])]], 0, 1, [])
-- WhirlShaftsModel.disc(III)I
def e_135 : q_E := ([[some (.iload_n 1, [], []), some (.iconst (0), [], [(0, 0)]), some (.iconst (4), [], [(4, 0)]), some (.invokestatic 122, [120, 3, 1], []), none, none, some (.ifCond .eq (30), [36], []), none, none, some (.iload_n 2, [], []), some (.iconst (1), [], [(1, 0)]), some (.bipush (99), [], [(99, 0)]), none, some (.invokestatic 122, [120, 3, 1], []), none, none], [some (.ifCond .eq (20), [36], []), none, none, some (.aload_n 0, [], []), some (.getfield 119, [12, 0, 0], []), none, none, some (.ifCond .le (15), [38], []), none, none, some (.iload_n 3, [], []), some (.iconst (1), [], [(1, 0)]), some (.bipush (99), [], [(99, 0)]), none, some (.invokestatic 122, [120, 3, 1], []), none], [none, some (.ifCond .ne (5), [38], []), none, none, some (.iconst (-1), [], [(-1, 0)]), some (.ireturn, [], []), some (.aload_n 0, [], []), some (.getfield 119, [12, 0, 0], []), none, none, some (.bipush (8), [], [(8, 0)]), none, some (.if_icmp .ne (6), [50], []), none, none, some (.bipush (-3), [], [(-3, 0)])], [none, some (.ireturn, [], []), some (.aload_n 0, [], []), some (.getfield 9, [12, 3, 1], []), none, none, some (.aload_n 0, [], []), some (.getfield 119, [12, 0, 0], []), none, none, some (.iload_n 1, [], []), some (.iastore, [], []), some (.aload_n 0, [], []), some (.getfield 15, [12, 4, 1], []), none, none], [some (.aload_n 0, [], []), some (.getfield 119, [12, 0, 0], []), none, none, some (.iload_n 2, [], []), some (.iastore, [], []), some (.aload_n 0, [], []), some (.getfield 18, [12, 5, 1], []), none, none, some (.aload_n 0, [], []), some (.getfield 119, [12, 0, 0], []), none, none, some (.iconst (0), [], [(0, 0)]), some (.iastore, [], [])], [some (.aload_n 0, [], []), some (.getfield 119, [12, 0, 0], []), none, none, some (.ifCond .le (27), [111], []), none, none, some (.aload_n 0, [], []), some (.getfield 21, [12, 6, 1], []), none, none, some (.aload_n 0, [], []), some (.getfield 119, [12, 0, 0], []), none, none, some (.iconst (1), [], [(1, 0)])], [some (.isub, [], []), some (.iload_n 3, [], []), some (.iastore, [], []), some (.aload_n 0, [], []), some (.getfield 24, [12, 7, 1], []), none, none, some (.aload_n 0, [], []), some (.getfield 119, [12, 0, 0], []), none, none, some (.iconst (1), [], [(1, 0)]), some (.isub, [], []), some (.iconst (1), [], [(1, 0)]), some (.iastore, [], []), some (.aload_n 0, [], [])], [some (.invokevirtual 172, [134, 0, 0, 12], []), none, none, some (.aload_n 0, [], []), some (.dup, [], []), some (.getfield 119, [12, 0, 0], []), none, none, some (.dup_x1, [], []), some (.iconst (1), [], [(1, 0)]), some (.iadd, [], []), some (.putfield 119, [12, 0, 0], []), none, none, some (.ireturn, [], [])]], 1, 4, [(38, [0, 1, 2, 3]), (111, [0])])
-- WhirlShaftsModel.cut()I
def e_136 : q_E := ([[some (.aload_n 0, [], []), some (.getfield 119, [12, 0, 0], []), none, none, some (.ifCond .ne (6), [10], []), none, none, some (.bipush (-5), [], [(-5, 0)]), none, some (.ireturn, [], []), some (.aload_n 0, [], []), some (.invokevirtual 172, [134, 0, 0, 12], []), none, none, some (.aload_n 0, [], []), some (.dup, [], [])], [some (.getfield 119, [12, 0, 0], []), none, none, some (.iconst (1), [], [(1, 0)]), some (.isub, [], []), some (.putfield 119, [12, 0, 0], []), none, none, some (.aload_n 0, [], []), some (.getfield 119, [12, 0, 0], []), none, none, some (.ireturn, [], [])]], 1, 1, [])
-- WhirlShaftsModel.clear()I
def e_137 : q_E := ([[some (.aload_n 0, [], []), some (.getfield 119, [12, 0, 0], []), none, none, some (.istore_n 1, [], []), some (.aload_n 0, [], []), some (.iconst (0), [], [(0, 0)]), some (.putfield 119, [12, 0, 0], []), none, none, some (.aload_n 0, [], []), some (.iconst (0), [], [(0, 0)]), some (.putfield 130, [12, 1, 0], []), none, none, some (.aload_n 0, [], [])], [some (.iconst (0), [], [(0, 0)]), some (.putfield 137, [12, 2, 0], []), none, none, some (.aload_n 0, [], []), some (.invokevirtual 172, [134, 0, 0, 12], []), none, none, some (.iload_n 1, [], []), some (.ireturn, [], [])]], 1, 2, [])
-- WhirlShaftsModel.is(II)I
def e_138 : q_E := ([[some (.iload_n 1, [], []), some (.tableswitch (68) (0) (4) #[35, 42, 49, 56, 63], [69], [(0, 36), (1, 43), (2, 50), (3, 57), (4, 64)]), none, none, none, none, none, none, none, none, none, none, none, none, none, none], [none, none, none, none, none, none, none, none, none, none, none, none, none, none, none, none], [none, none, none, none, some (.aload_n 0, [], []), some (.getfield 15, [12, 4, 1], []), none, none, some (.iload_n 2, [], []), some (.iaload, [], []), some (.ireturn, [], []), some (.aload_n 0, [], []), some (.getfield 21, [12, 6, 1], []), none, none, some (.iload_n 2, [], [])], [some (.iaload, [], []), some (.ireturn, [], []), some (.aload_n 0, [], []), some (.getfield 18, [12, 5, 1], []), none, none, some (.iload_n 2, [], []), some (.iaload, [], []), some (.ireturn, [], []), some (.aload_n 0, [], []), some (.getfield 24, [12, 7, 1], []), none, none, some (.iload_n 2, [], []), some (.iaload, [], []), some (.ireturn, [], [])], [some (.aload_n 0, [], []), some (.getfield 130, [12, 1, 0], []), none, none, some (.ireturn, [], []), some (.aload_n 0, [], []), some (.getfield 137, [12, 2, 0], []), none, none, some (.ireturn, [], [])]], 1, 3, [])
-- WhirlShaftsModel.becomes(III)V
def e_139 : q_E := ([[some (.iload_n 1, [], []), some (.tableswitch (83) (0) (4) #[35, 45, 55, 65, 75], [84], [(0, 36), (1, 46), (2, 56), (3, 66), (4, 76)]), none, none, none, none, none, none, none, none, none, none, none, none, none, none], [none, none, none, none, none, none, none, none, none, none, none, none, none, none, none, none], [none, none, none, none, some (.aload_n 0, [], []), some (.getfield 15, [12, 4, 1], []), none, none, some (.iload_n 2, [], []), some (.iload_n 3, [], []), some (.iastore, [], []), some (.goto (46), [89], []), none, none, some (.aload_n 0, [], []), some (.getfield 21, [12, 6, 1], [])], [none, none, some (.iload_n 2, [], []), some (.iload_n 3, [], []), some (.iastore, [], []), some (.goto (36), [89], []), none, none, some (.aload_n 0, [], []), some (.getfield 18, [12, 5, 1], []), none, none, some (.iload_n 2, [], []), some (.iload_n 3, [], []), some (.iastore, [], []), some (.goto (26), [89], [])], [none, none, some (.aload_n 0, [], []), some (.getfield 24, [12, 7, 1], []), none, none, some (.iload_n 2, [], []), some (.iload_n 3, [], []), some (.iastore, [], []), some (.goto (16), [89], []), none, none, some (.aload_n 0, [], []), some (.iload_n 3, [], []), some (.putfield 130, [12, 1, 0], []), none], [none, some (.goto (8), [89], []), none, none, some (.aload_n 0, [], []), some (.iload_n 3, [], []), some (.putfield 137, [12, 2, 0], []), none, none, some (.return_, [], [])]], 0, 4, [])
-- WhirlShaftsModel.isOne(II)Z
def e_140 : q_E := ([[some (.iload_n 1, [], []), some (.tableswitch (43) (0) (3) #[31, 37, 31, 37], [44], [(0, 32), (1, 38), (2, 32), (3, 38)]), none, none, none, none, none, none, none, none, none, none, none, none, none, none], [none, none, none, none, none, none, none, none, none, none, none, none, none, none, none, none], [some (.aload_n 0, [], []), some (.iload_n 2, [], []), some (.invokevirtual 175, [121, 1, 1, 12], []), none, none, some (.ireturn, [], []), some (.aload_n 0, [], []), some (.iload_n 2, [], []), some (.invokevirtual 178, [122, 1, 1, 12], []), none, none, some (.ireturn, [], []), some (.iload_n 1, [], []), some (.iconst (4), [], [(4, 0)]), some (.iconst (5), [], [(5, 0)]), some (.invokestatic 122, [120, 3, 1], [])], [none, none, some (.ireturn, [], [])]], 2, 3, [])
-- WhirlShaftsModel.leastOf(I)I
def e_141 : q_E := ([[some (.iload_n 0, [], []), some (.ifCond .eq (13), [14], []), none, none, some (.iload_n 0, [], []), some (.iconst (1), [], [(1, 0)]), some (.if_icmp .eq (8), [14], []), none, none, some (.iload_n 0, [], []), some (.iconst (3), [], [(3, 0)]), some (.if_icmp .ne (7), [18], []), none, none, some (.iconst (1), [], [(1, 0)]), some (.goto (4), [19], [])], [none, none, some (.iconst (0), [], [(0, 0)]), some (.ireturn, [], [])]], 1, 1, [])
-- WhirlShaftsModel.mostOf(I)I
def e_142 : q_E := ([[some (.iload_n 0, [], []), some (.iconst (3), [], [(3, 0)]), some (.if_icmp .ge (8), [10], []), none, none, some (.bipush (99), [], [(99, 0)]), none, some (.goto (24), [31], []), none, none, some (.iload_n 0, [], []), some (.iconst (3), [], [(3, 0)]), some (.if_icmp .ne (8), [20], []), none, none, some (.bipush (6), [], [(6, 0)])], [none, some (.goto (14), [31], []), none, none, some (.iload_n 0, [], []), some (.iconst (4), [], [(4, 0)]), some (.if_icmp .ne (8), [30], []), none, none, some (.bipush (9), [], [(9, 0)]), none, some (.goto (4), [31], []), none, none, some (.iconst (2), [], [(2, 0)]), some (.ireturn, [], [])]], 1, 1, [])
-- WhirlShaftsModel.refuses(III)I
def e_143 : q_E := ([[some (.iload_n 1, [], []), some (.iconst (0), [], [(0, 0)]), some (.iconst (5), [], [(5, 0)]), some (.invokestatic 122, [120, 3, 1], []), none, none, some (.ifCond .eq (27), [33], []), none, none, some (.aload_n 0, [], []), some (.iload_n 1, [], []), some (.iload_n 2, [], []), some (.invokevirtual 181, [140, 2, 1, 12], []), none, none, some (.ifCond .eq (18), [33], [])], [none, none, some (.iload_n 3, [], []), some (.iload_n 1, [], []), some (.invokestatic 185, [141, 1, 1], []), none, none, some (.iload_n 1, [], []), some (.invokestatic 188, [142, 1, 1], []), none, none, some (.invokestatic 122, [120, 3, 1], []), none, none, some (.ifCond .ne (5), [35], []), none], [none, some (.iconst (-1), [], [(-1, 0)]), some (.ireturn, [], []), some (.iload_n 1, [], []), some (.iconst (3), [], [(3, 0)]), some (.if_icmp .ne (26), [63], []), none, none, some (.aload_n 0, [], []), some (.invokevirtual 191, [127, 0, 1, 12], []), none, none, some (.aload_n 0, [], []), some (.getfield 24, [12, 7, 1], []), none, none], [some (.iload_n 2, [], []), some (.iaload, [], []), some (.idiv, [], []), some (.iload_n 3, [], []), some (.imul, [], []), some (.bipush (6), [], [(6, 0)]), none, some (.if_icmp .le (8), [63], []), none, none, some (.bipush (-5), [], [(-5, 0)]), none, some (.goto (4), [64], []), none, none, some (.iconst (0), [], [(0, 0)])], [some (.ireturn, [], [])]], 1, 4, [])
-- WhirlShaftsModel.notes(IIII)V
def e_144 : q_E := ([[some (.aload_n 0, [], []), some (.getfield 166, [12, 20, 0], []), none, none, some (.bipush (12), [], [(12, 0)]), none, some (.if_icmp .ne (93), [99], []), none, none, some (.iconst (1), [], [(1, 0)]), some (.istore 5, [], []), none, some (.iload 5, [], []), none, some (.bipush (12), [], [(12, 0)]), none], [some (.if_icmp .ge (73), [89], []), none, none, some (.aload_n 0, [], []), some (.getfield 52, [12, 16, 1], []), none, none, some (.iload 5, [], []), none, some (.iconst (1), [], [(1, 0)]), some (.isub, [], []), some (.aload_n 0, [], []), some (.getfield 52, [12, 16, 1], []), none, none, some (.iload 5, [], [])], [none, some (.iaload, [], []), some (.iastore, [], []), some (.aload_n 0, [], []), some (.getfield 55, [12, 17, 1], []), none, none, some (.iload 5, [], []), none, some (.iconst (1), [], [(1, 0)]), some (.isub, [], []), some (.aload_n 0, [], []), some (.getfield 55, [12, 17, 1], []), none, none, some (.iload 5, [], [])], [none, some (.iaload, [], []), some (.iastore, [], []), some (.aload_n 0, [], []), some (.getfield 58, [12, 18, 1], []), none, none, some (.iload 5, [], []), none, some (.iconst (1), [], [(1, 0)]), some (.isub, [], []), some (.aload_n 0, [], []), some (.getfield 58, [12, 18, 1], []), none, none, some (.iload 5, [], [])], [none, some (.iaload, [], []), some (.iastore, [], []), some (.aload_n 0, [], []), some (.getfield 61, [12, 19, 1], []), none, none, some (.iload 5, [], []), none, some (.iconst (1), [], [(1, 0)]), some (.isub, [], []), some (.aload_n 0, [], []), some (.getfield 61, [12, 19, 1], []), none, none, some (.iload 5, [], [])], [none, some (.iaload, [], []), some (.iastore, [], []), some (.iinc 5 (1), [], [(1, 0)]), none, none, some (.goto (-74), [12], []), none, none, some (.aload_n 0, [], []), some (.dup, [], []), some (.getfield 166, [12, 20, 0], []), none, none, some (.iconst (1), [], [(1, 0)]), some (.isub, [], [])], [some (.putfield 166, [12, 20, 0], []), none, none, some (.aload_n 0, [], []), some (.getfield 52, [12, 16, 1], []), none, none, some (.aload_n 0, [], []), some (.getfield 166, [12, 20, 0], []), none, none, some (.iload_n 1, [], []), some (.iastore, [], []), some (.aload_n 0, [], []), some (.getfield 55, [12, 17, 1], []), none], [none, some (.aload_n 0, [], []), some (.getfield 166, [12, 20, 0], []), none, none, some (.iload_n 2, [], []), some (.iastore, [], []), some (.aload_n 0, [], []), some (.getfield 58, [12, 18, 1], []), none, none, some (.aload_n 0, [], []), some (.getfield 166, [12, 20, 0], []), none, none, some (.iload_n 3, [], [])], [some (.iastore, [], []), some (.aload_n 0, [], []), some (.getfield 61, [12, 19, 1], []), none, none, some (.aload_n 0, [], []), some (.getfield 166, [12, 20, 0], []), none, none, some (.iload 4, [], []), none, some (.iastore, [], []), some (.aload_n 0, [], []), some (.dup, [], []), some (.getfield 166, [12, 20, 0], []), none], [none, some (.iconst (1), [], [(1, 0)]), some (.iadd, [], []), some (.putfield 166, [12, 20, 0], []), none, none, some (.aload_n 0, [], []), some (.iconst (0), [], [(0, 0)]), some (.putfield 169, [12, 21, 0], []), none, none, some (.return_, [], [])]], 0, 6, [(12, [0, 1, 2, 3, 4, 5]), (99, [0, 1, 2, 3, 4])])
-- WhirlShaftsModel.set(III)I
def e_145 : q_E := ([[some (.aload_n 0, [], []), some (.iload_n 1, [], []), some (.iload_n 2, [], []), some (.iload_n 3, [], []), some (.invokevirtual 194, [143, 3, 1, 12], []), none, none, some (.istore 4, [], []), none, some (.iload 4, [], []), none, some (.ifCond .eq (6), [17], []), none, none, some (.iload 4, [], []), none], [some (.ireturn, [], []), some (.aload_n 0, [], []), some (.iload_n 1, [], []), some (.iload_n 2, [], []), some (.invokevirtual 198, [138, 2, 1, 12], []), none, none, some (.istore 5, [], []), none, some (.iload 5, [], []), none, some (.iload_n 3, [], []), some (.if_icmp .eq (19), [47], []), none, none, some (.aload_n 0, [], [])], [some (.iload_n 1, [], []), some (.iload_n 2, [], []), some (.iload 5, [], []), none, some (.iload_n 3, [], []), some (.invokevirtual 201, [144, 4, 0, 12], []), none, none, some (.aload_n 0, [], []), some (.iload_n 1, [], []), some (.iload_n 2, [], []), some (.iload_n 3, [], []), some (.invokevirtual 205, [139, 3, 0, 12], []), none, none, some (.iload 5, [], [])], [none, some (.ireturn, [], [])]], 1, 6, [])
-- WhirlShaftsModel.undo()I
def e_146 : q_E := ([[some (.aload_n 0, [], []), some (.getfield 166, [12, 20, 0], []), none, none, some (.ifCond .ne (6), [10], []), none, none, some (.bipush (-5), [], [(-5, 0)]), none, some (.ireturn, [], []), some (.aload_n 0, [], []), some (.dup, [], []), some (.getfield 166, [12, 20, 0], []), none, none, some (.iconst (1), [], [(1, 0)])], [some (.isub, [], []), some (.putfield 166, [12, 20, 0], []), none, none, some (.aload_n 0, [], []), some (.dup, [], []), some (.getfield 169, [12, 21, 0], []), none, none, some (.iconst (1), [], [(1, 0)]), some (.iadd, [], []), some (.putfield 169, [12, 21, 0], []), none, none, some (.aload_n 0, [], []), some (.aload_n 0, [], [])], [some (.getfield 52, [12, 16, 1], []), none, none, some (.aload_n 0, [], []), some (.getfield 166, [12, 20, 0], []), none, none, some (.iaload, [], []), some (.aload_n 0, [], []), some (.getfield 55, [12, 17, 1], []), none, none, some (.aload_n 0, [], []), some (.getfield 166, [12, 20, 0], []), none, none], [some (.iaload, [], []), some (.aload_n 0, [], []), some (.getfield 58, [12, 18, 1], []), none, none, some (.aload_n 0, [], []), some (.getfield 166, [12, 20, 0], []), none, none, some (.iaload, [], []), some (.invokevirtual 205, [139, 3, 0, 12], []), none, none, some (.aload_n 0, [], []), some (.getfield 166, [12, 20, 0], []), none], [none, some (.ireturn, [], [])]], 1, 1, [])
-- WhirlShaftsModel.redo()I
def e_147 : q_E := ([[some (.aload_n 0, [], []), some (.getfield 169, [12, 21, 0], []), none, none, some (.ifCond .ne (6), [10], []), none, none, some (.bipush (-5), [], [(-5, 0)]), none, some (.ireturn, [], []), some (.aload_n 0, [], []), some (.aload_n 0, [], []), some (.getfield 52, [12, 16, 1], []), none, none, some (.aload_n 0, [], [])], [some (.getfield 166, [12, 20, 0], []), none, none, some (.iaload, [], []), some (.aload_n 0, [], []), some (.getfield 55, [12, 17, 1], []), none, none, some (.aload_n 0, [], []), some (.getfield 166, [12, 20, 0], []), none, none, some (.iaload, [], []), some (.aload_n 0, [], []), some (.getfield 61, [12, 19, 1], []), none], [none, some (.aload_n 0, [], []), some (.getfield 166, [12, 20, 0], []), none, none, some (.iaload, [], []), some (.invokevirtual 205, [139, 3, 0, 12], []), none, none, some (.aload_n 0, [], []), some (.dup, [], []), some (.getfield 166, [12, 20, 0], []), none, none, some (.iconst (1), [], [(1, 0)]), some (.iadd, [], [])], [some (.putfield 166, [12, 20, 0], []), none, none, some (.aload_n 0, [], []), some (.dup, [], []), some (.getfield 169, [12, 21, 0], []), none, none, some (.iconst (1), [], [(1, 0)]), some (.isub, [], []), some (.putfield 169, [12, 21, 0], []), none, none, some (.aload_n 0, [], []), some (.getfield 169, [12, 21, 0], []), none], [none, some (.ireturn, [], [])]], 1, 1, [])
-- WhirlShaftsModel.of(II)I
def e_148 : q_E := ([[some (.iload_n 1, [], []), some (.iconst (0), [], [(0, 0)]), some (.iconst (5), [], [(5, 0)]), some (.invokestatic 122, [120, 3, 1], []), none, none, some (.ifCond .eq (23), [29], []), none, none, some (.aload_n 0, [], []), some (.iload_n 1, [], []), some (.iload_n 2, [], []), some (.invokevirtual 181, [140, 2, 1, 12], []), none, none, some (.ifCond .eq (12), [27], [])], [none, none, some (.aload_n 0, [], []), some (.iload_n 1, [], []), some (.iload_n 2, [], []), some (.invokevirtual 198, [138, 2, 1, 12], []), none, none, some (.goto (4), [28], []), none, none, some (.iconst (-1), [], [(-1, 0)]), some (.ireturn, [], []), some (.iload_n 1, [], []), some (.bipush (12), [], [(12, 0)]), none], [some (.if_icmp .ne (14), [46], []), none, none, some (.aload_n 0, [], []), some (.iload_n 2, [], []), some (.invokevirtual 178, [122, 1, 1, 12], []), none, none, some (.ifCond .ne (27), [67], []), none, none, some (.goto (22), [65], []), none, none, some (.iload_n 1, [], []), some (.bipush (6), [], [(6, 0)])], [none, some (.bipush (11), [], [(11, 0)]), none, some (.invokestatic 122, [120, 3, 1], []), none, none, some (.ifCond .eq (11), [65], []), none, none, some (.aload_n 0, [], []), some (.iload_n 2, [], []), some (.invokevirtual 175, [121, 1, 1, 12], []), none, none, some (.ifCond .ne (5), [67], []), none], [none, some (.iconst (-1), [], [(-1, 0)]), some (.ireturn, [], []), some (.aload_n 0, [], []), some (.invokevirtual 155, [126, 0, 0, 12], []), none, none, some (.iload_n 1, [], []), some (.tableswitch (81) (6) (11) #[40, 47, 53, 60, 67, 74], [153], [(6, 112), (7, 119), (8, 125), (9, 132), (10, 139), (11, 146)]), none, none, none, none, none, none, none], [none, none, none, none, none, none, none, none, none, none, none, none, none, none, none, none], [none, none, none, none, none, none, none, none, none, none, none, none, none, none, none, none], [some (.aload_n 0, [], []), some (.getfield 9, [12, 3, 1], []), none, none, some (.iload_n 2, [], []), some (.iaload, [], []), some (.ireturn, [], []), some (.aload_n 0, [], []), some (.iload_n 2, [], []), some (.invokevirtual 133, [125, 1, 1, 12], []), none, none, some (.ireturn, [], []), some (.aload_n 0, [], []), some (.getfield 30, [12, 9, 1], []), none], [none, some (.iload_n 2, [], []), some (.iaload, [], []), some (.ireturn, [], []), some (.aload_n 0, [], []), some (.getfield 33, [12, 10, 1], []), none, none, some (.iload_n 2, [], []), some (.iaload, [], []), some (.ireturn, [], []), some (.aload_n 0, [], []), some (.getfield 27, [12, 8, 1], []), none, none, some (.iload_n 2, [], [])], [some (.iaload, [], []), some (.ireturn, [], []), some (.aload_n 0, [], []), some (.getfield 39, [12, 12, 1], []), none, none, some (.iload_n 2, [], []), some (.iaload, [], []), some (.ireturn, [], []), some (.aload_n 0, [], []), some (.getfield 36, [12, 11, 1], []), none, none, some (.iload_n 2, [], []), some (.iaload, [], []), some (.ireturn, [], [])]], 1, 3, [])
-- WhirlShaftsModel.below(II)I
def e_149 : q_E := ([[some (.iload_n 1, [], []), some (.iload_n 2, [], []), some (.invokestatic 209, [124, 2, 1], []), none, none, some (.ifCond .ne (5), [10], []), none, none, some (.iconst (-1), [], [(-1, 0)]), some (.ireturn, [], []), some (.aload_n 0, [], []), some (.invokevirtual 155, [126, 0, 0, 12], []), none, none, some (.aload_n 0, [], []), some (.iload_n 1, [], [])], [some (.iload_n 2, [], []), some (.invokevirtual 162, [131, 2, 1, 12], []), none, none, some (.ireturn, [], [])]], 1, 3, [])
-- WhirlShaftsModel.isRate(II)I
def e_150 : q_E := ([[some (.iload_n 1, [], []), some (.iload_n 2, [], []), some (.invokestatic 209, [124, 2, 1], []), none, none, some (.ifCond .ne (5), [10], []), none, none, some (.iconst (-1), [], [(-1, 0)]), some (.ireturn, [], []), some (.aload_n 0, [], []), some (.invokevirtual 155, [126, 0, 0, 12], []), none, none, some (.aload_n 0, [], []), some (.iload_n 1, [], [])], [some (.iload_n 2, [], []), some (.invokevirtual 162, [131, 2, 1, 12], []), none, none, some (.pop, [], []), some (.aload_n 0, [], []), some (.getfield 46, [12, 14, 1], []), none, none, some (.aload_n 0, [], []), some (.getfield 119, [12, 0, 0], []), none, none, some (.iaload, [], []), some (.ifCond .ne (7), [37], []), none], [none, some (.iconst (1), [], [(1, 0)]), some (.goto (4), [38], []), none, none, some (.iconst (0), [], [(0, 0)]), some (.ireturn, [], [])]], 1, 3, [])
-- WhirlShaftsModel.sign(III)I
def e_151 : q_E := ([[some (.aload_n 0, [], []), some (.iload_n 1, [], []), some (.invokevirtual 175, [121, 1, 1, 12], []), none, none, some (.ifCond .eq (11), [16], []), none, none, some (.iload_n 2, [], []), some (.iload_n 3, [], []), some (.invokestatic 209, [124, 2, 1], []), none, none, some (.ifCond .ne (7), [20], []), none, none], [some (.sipush (-1000), [], [(-1000, 0)]), none, none, some (.ireturn, [], []), some (.aload_n 0, [], []), some (.invokevirtual 155, [126, 0, 0, 12], []), none, none, some (.aload_n 0, [], []), some (.iload_n 2, [], []), some (.iload_n 3, [], []), some (.invokevirtual 162, [131, 2, 1, 12], []), none, none, some (.pop, [], []), some (.aload_n 0, [], [])], [some (.getfield 46, [12, 14, 1], []), none, none, some (.iload_n 1, [], []), some (.iaload, [], []), some (.ireturn, [], [])]], 1, 4, [])
-- WhirlShaftsModel.nodes(II)I
def e_152 : q_E := ([[some (.iload_n 1, [], []), some (.iload_n 2, [], []), some (.invokestatic 209, [124, 2, 1], []), none, none, some (.ifCond .ne (5), [10], []), none, none, some (.iconst (-1), [], [(-1, 0)]), some (.ireturn, [], []), some (.aload_n 0, [], []), some (.invokevirtual 155, [126, 0, 0, 12], []), none, none, some (.aload_n 0, [], []), some (.iload_n 1, [], [])], [some (.iload_n 2, [], []), some (.invokevirtual 162, [131, 2, 1, 12], []), none, none, some (.pop, [], []), some (.iconst (0), [], [(0, 0)]), some (.istore_n 3, [], []), some (.iconst (1), [], [(1, 0)]), some (.istore 4, [], []), none, some (.iconst (0), [], [(0, 0)]), some (.istore 5, [], []), none, some (.iload 5, [], []), none, some (.aload_n 0, [], [])], [some (.getfield 119, [12, 0, 0], []), none, none, some (.if_icmp .ge (46), [81], []), none, none, some (.aload_n 0, [], []), some (.getfield 46, [12, 14, 1], []), none, none, some (.iload 5, [], []), none, some (.iaload, [], []), some (.ifCond .eq (30), [75], []), none, none], [some (.aload_n 0, [], []), some (.getfield 46, [12, 14, 1], []), none, none, some (.iload 5, [], []), none, some (.iaload, [], []), some (.iload 4, [], []), none, some (.if_icmp .ne (6), [63], []), none, none, some (.goto (15), [75], []), none, none, some (.iinc 3 (1), [], [(1, 0)])], [none, none, some (.aload_n 0, [], []), some (.getfield 46, [12, 14, 1], []), none, none, some (.iload 5, [], []), none, some (.iaload, [], []), some (.istore 4, [], []), none, some (.iinc 5 (1), [], [(1, 0)]), none, none, some (.goto (-49), [29], []), none], [none, some (.iload_n 3, [], []), some (.ireturn, [], [])]], 1, 6, [(29, [0, 3, 4, 5])])
-- WhirlShaftsModel.rest(III)I
def e_153 : q_E := ([[some (.iload_n 1, [], []), some (.iconst (0), [], [(0, 0)]), some (.aload_n 0, [], []), some (.getfield 119, [12, 0, 0], []), none, none, some (.invokestatic 122, [120, 3, 1], []), none, none, some (.ifCond .eq (11), [20], []), none, none, some (.iload_n 2, [], []), some (.iload_n 3, [], []), some (.invokestatic 209, [124, 2, 1], []), none], [none, some (.ifCond .ne (5), [22], []), none, none, some (.iconst (-1), [], [(-1, 0)]), some (.ireturn, [], []), some (.aload_n 0, [], []), some (.invokevirtual 155, [126, 0, 0, 12], []), none, none, some (.aload_n 0, [], []), some (.iload_n 2, [], []), some (.iload_n 3, [], []), some (.invokevirtual 162, [131, 2, 1, 12], []), none, none], [some (.pop, [], []), some (.aload_n 0, [], []), some (.getfield 49, [12, 15, 1], []), none, none, some (.iload_n 1, [], []), some (.iaload, [], []), some (.ireturn, [], [])]], 1, 4, [])
-- WhirlShaftsModel.top()I
def e_154 : q_E := ([[some (.aload_n 0, [], []), some (.invokevirtual 155, [126, 0, 0, 12], []), none, none, some (.aload_n 0, [], []), some (.invokevirtual 158, [132, 0, 1, 12], []), none, none, some (.ireturn, [], [])]], 1, 1, [])
-- WhirlShaftsModel.isFenced(II)Z
def e_155 : q_E := ([[some (.aload_n 0, [], []), some (.iload_n 1, [], []), some (.invokevirtual 175, [121, 1, 1, 12], []), none, none, some (.ifCond .eq (14), [19], []), none, none, some (.iload_n 2, [], []), some (.invokestatic 126, [123, 1, 1], []), none, none, some (.ifCond .eq (7), [19], []), none, none, some (.iconst (1), [], [(1, 0)])], [some (.goto (4), [20], []), none, none, some (.iconst (0), [], [(0, 0)]), some (.ireturn, [], [])]], 2, 3, [])
-- WhirlShaftsModel.fence(II)I
def e_156 : q_E := ([[some (.aload_n 0, [], []), some (.iload_n 1, [], []), some (.iload_n 2, [], []), some (.invokevirtual 212, [155, 2, 1, 12], []), none, none, some (.ifCond .eq (12), [18], []), none, none, some (.aload_n 0, [], []), some (.iload_n 1, [], []), some (.iload_n 2, [], []), some (.invokevirtual 215, [133, 2, 1, 12], []), none, none, some (.goto (4), [19], [])], [none, none, some (.iconst (-1), [], [(-1, 0)]), some (.ireturn, [], [])]], 1, 3, [])
-- WhirlShaftsModel.held(III)I
def e_157 : q_E := ([[some (.aload_n 0, [], []), some (.iload_n 1, [], []), some (.invokevirtual 175, [121, 1, 1, 12], []), none, none, some (.ifCond .eq (11), [16], []), none, none, some (.iload_n 2, [], []), some (.iload_n 3, [], []), some (.invokestatic 209, [124, 2, 1], []), none, none, some (.ifCond .ne (5), [18], []), none, none], [some (.iconst (-1), [], [(-1, 0)]), some (.ireturn, [], []), some (.aload_n 0, [], []), some (.invokevirtual 155, [126, 0, 0, 12], []), none, none, some (.aload_n 0, [], []), some (.iconst (0), [], [(0, 0)]), some (.iload_n 1, [], []), some (.iconst (1), [], [(1, 0)]), some (.isub, [], []), some (.iload_n 2, [], []), some (.iload_n 3, [], []), some (.invokevirtual 151, [130, 4, 1, 12], []), none, none], [some (.istore 4, [], []), none, some (.iload 4, [], []), none, some (.aload_n 0, [], []), some (.iload_n 1, [], []), some (.iconst (1), [], [(1, 0)]), some (.iadd, [], []), some (.aload_n 0, [], []), some (.getfield 119, [12, 0, 0], []), none, none, some (.iconst (1), [], [(1, 0)]), some (.isub, [], []), some (.iload_n 2, [], []), some (.iload_n 3, [], [])], [some (.invokevirtual 151, [130, 4, 1, 12], []), none, none, some (.iadd, [], []), some (.ireturn, [], [])]], 1, 5, [])
-- WhirlShaftsModel.isBand(III)Z
def e_158 : q_E := ([[some (.iload_n 0, [], []), some (.iload_n 2, [], []), some (.invokestatic 209, [124, 2, 1], []), none, none, some (.ifCond .eq (20), [25], []), none, none, some (.iload_n 1, [], []), some (.iload_n 2, [], []), some (.invokestatic 209, [124, 2, 1], []), none, none, some (.ifCond .eq (12), [25], []), none, none], [some (.iload_n 0, [], []), some (.iload_n 1, [], []), some (.if_icmp .gt (7), [25], []), none, none, some (.iconst (1), [], [(1, 0)]), some (.goto (4), [26], []), none, none, some (.iconst (0), [], [(0, 0)]), some (.ireturn, [], [])]], 2, 3, [])
-- WhirlShaftsModel.bandOf(III)I
def e_159 : q_E := ([[some (.aload_n 0, [], []), some (.invokevirtual 155, [126, 0, 0, 12], []), none, none, some (.aload_n 0, [], []), some (.iload_n 2, [], []), some (.iload_n 3, [], []), some (.invokevirtual 162, [131, 2, 1, 12], []), none, none, some (.istore 4, [], []), none, some (.iload 4, [], []), none, some (.aload_n 0, [], []), some (.iload_n 1, [], [])], [some (.iload_n 3, [], []), some (.invokevirtual 162, [131, 2, 1, 12], []), none, none, some (.isub, [], []), some (.ireturn, [], [])]], 1, 5, [])
-- WhirlShaftsModel.band(III)I
def e_160 : q_E := ([[some (.iload_n 1, [], []), some (.iload_n 2, [], []), some (.iload_n 3, [], []), some (.invokestatic 218, [158, 3, 1], []), none, none, some (.ifCond .eq (13), [19], []), none, none, some (.aload_n 0, [], []), some (.iload_n 1, [], []), some (.iload_n 2, [], []), some (.iload_n 3, [], []), some (.invokevirtual 221, [159, 3, 1, 12], []), none, none], [some (.goto (4), [20], []), none, none, some (.iconst (-1), [], [(-1, 0)]), some (.ireturn, [], [])]], 1, 4, [])
-- WhirlShaftsModel.gap(II)I
def e_161 : q_E := ([[some (.iload_n 1, [], []), some (.invokestatic 126, [123, 1, 1], []), none, none, some (.ifCond .eq (12), [16], []), none, none, some (.iload_n 2, [], []), some (.iconst (0), [], [(0, 0)]), some (.iconst (1), [], [(1, 0)]), some (.invokestatic 122, [120, 3, 1], []), none, none, some (.ifCond .ne (5), [18], []), none, none], [some (.iconst (-1), [], [(-1, 0)]), some (.ireturn, [], []), some (.bipush (-2), [], [(-2, 0)]), none, some (.istore_n 3, [], []), some (.bipush (-2), [], [(-2, 0)]), none, some (.istore 4, [], []), none, some (.iconst (0), [], [(0, 0)]), some (.istore 5, [], []), none, some (.iload 5, [], []), none, some (.aload_n 0, [], []), some (.getfield 119, [12, 0, 0], [])], [none, none, some (.iconst (1), [], [(1, 0)]), some (.isub, [], []), some (.if_icmp .ge (49), [85], []), none, none, some (.aload_n 0, [], []), some (.iload 5, [], []), none, some (.iconst (1), [], [(1, 0)]), some (.iadd, [], []), some (.iload_n 1, [], []), some (.invokevirtual 215, [133, 2, 1, 12], []), none, none], [some (.aload_n 0, [], []), some (.iload 5, [], []), none, some (.iload_n 1, [], []), some (.invokevirtual 215, [133, 2, 1, 12], []), none, none, some (.isub, [], []), some (.istore 6, [], []), none, some (.iload_n 3, [], []), some (.ifCond .lt (13), [72], []), none, none, some (.iload 6, [], []), none], [some (.iload 4, [], []), none, some (.if_icmp .gt (6), [72], []), none, none, some (.goto (10), [79], []), none, none, some (.iload 5, [], []), none, some (.istore_n 3, [], []), some (.iload 6, [], []), none, some (.istore 4, [], []), none, some (.iinc 5 (1), [], [(1, 0)])], [none, none, some (.goto (-54), [28], []), none, none, some (.iload_n 2, [], []), some (.ifCond .ne (7), [93], []), none, none, some (.iload_n 3, [], []), some (.goto (5), [95], []), none, none, some (.iload 4, [], []), none, some (.ireturn, [], [])]], 1, 7, [(28, [0, 1, 2, 3, 4, 5])])
-- WhirlShaftsModel.trim(IIIII)I
def e_162 : q_E := ([[some (.aload_n 0, [], []), some (.iload_n 1, [], []), some (.invokevirtual 175, [121, 1, 1, 12], []), none, none, some (.ifCond .eq (30), [35], []), none, none, some (.aload_n 0, [], []), some (.iload_n 2, [], []), some (.invokevirtual 175, [121, 1, 1, 12], []), none, none, some (.ifCond .eq (22), [35], []), none, none], [some (.iload_n 3, [], []), some (.iload 4, [], []), none, some (.invokestatic 209, [124, 2, 1], []), none, none, some (.ifCond .eq (13), [35], []), none, none, some (.iload 5, [], []), none, some (.iconst (0), [], [(0, 0)]), some (.iconst (1), [], [(1, 0)]), some (.invokestatic 122, [120, 3, 1], []), none, none], [some (.ifCond .ne (5), [37], []), none, none, some (.iconst (-1), [], [(-1, 0)]), some (.ireturn, [], []), some (.aload_n 0, [], []), some (.getfield 15, [12, 4, 1], []), none, none, some (.iload_n 1, [], []), some (.iaload, [], []), some (.istore 6, [], []), none, some (.iconst (0), [], [(0, 0)]), some (.istore 7, [], []), none], [some (.iconst (0), [], [(0, 0)]), some (.istore 8, [], []), none, some (.iconst (1), [], [(1, 0)]), some (.istore 9, [], []), none, some (.iload 9, [], []), none, some (.bipush (99), [], [(99, 0)]), none, some (.if_icmp .gt (66), [124], []), none, none, some (.aload_n 0, [], []), some (.getfield 15, [12, 4, 1], []), none], [none, some (.iload_n 1, [], []), some (.iload 9, [], []), none, some (.iastore, [], []), some (.aload_n 0, [], []), some (.iload_n 2, [], []), some (.iload 4, [], []), none, some (.invokevirtual 215, [133, 2, 1, 12], []), none, none, some (.iload_n 3, [], []), some (.isub, [], []), some (.istore 10, [], []), none], [some (.iload 10, [], []), none, some (.ifCond .ge (9), [91], []), none, none, some (.iload 10, [], []), none, some (.ineg, [], []), some (.goto (5), [93], []), none, none, some (.iload 10, [], []), none, some (.istore 10, [], []), none, some (.iload 7, [], [])], [none, some (.ifCond .le (13), [110], []), none, none, some (.iload 10, [], []), none, some (.iload 8, [], []), none, some (.if_icmp .lt (6), [110], []), none, none, some (.goto (11), [118], []), none, none, some (.iload 9, [], []), none], [some (.istore 7, [], []), none, some (.iload 10, [], []), none, some (.istore 8, [], []), none, some (.iinc 9 (1), [], [(1, 0)]), none, none, some (.goto (-67), [54], []), none, none, some (.aload_n 0, [], []), some (.getfield 15, [12, 4, 1], []), none, none], [some (.iload_n 1, [], []), some (.iload 6, [], []), none, some (.iastore, [], []), some (.iload 5, [], []), none, some (.ifCond .ne (8), [142], []), none, none, some (.iload 7, [], []), none, some (.goto (5), [144], []), none, none, some (.iload 8, [], []), none], [some (.ireturn, [], [])]], 1, 11, [(54, [0, 1, 2, 3, 4, 5, 6, 7, 8, 9]), (93, [0, 1, 2, 3, 4, 5, 6, 7, 8, 9])])
-- WhirlShaftsModel.tune(IIII)I
def e_163 : q_E := ([[some (.aload_n 0, [], []), some (.iload_n 1, [], []), some (.invokevirtual 178, [122, 1, 1, 12], []), none, none, some (.ifCond .eq (13), [18], []), none, none, some (.iload_n 2, [], []), some (.iload_n 3, [], []), some (.iload 4, [], []), none, some (.invokestatic 218, [158, 3, 1], []), none, none, some (.ifCond .ne (5), [20], [])], [none, none, some (.iconst (-1), [], [(-1, 0)]), some (.ireturn, [], []), some (.aload_n 0, [], []), some (.getfield 21, [12, 6, 1], []), none, none, some (.iload_n 1, [], []), some (.iaload, [], []), some (.istore 5, [], []), none, some (.iconst (1), [], [(1, 0)]), some (.istore 6, [], []), none, some (.iconst (0), [], [(0, 0)])], [some (.istore 7, [], []), none, some (.iload 7, [], []), none, some (.ifCond .ne (42), [78], []), none, none, some (.iload 6, [], []), none, some (.bipush (99), [], [(99, 0)]), none, some (.if_icmp .gt (35), [78], []), none, none, some (.aload_n 0, [], []), some (.getfield 21, [12, 6, 1], [])], [none, none, some (.iload_n 1, [], []), some (.iload 6, [], []), none, some (.iastore, [], []), some (.aload_n 0, [], []), some (.iload_n 2, [], []), some (.iload_n 3, [], []), some (.iload 4, [], []), none, some (.invokevirtual 221, [159, 3, 1, 12], []), none, none, some (.ifCond .ne (7), [69], []), none], [none, some (.iconst (1), [], [(1, 0)]), some (.goto (4), [70], []), none, none, some (.iconst (0), [], [(0, 0)]), some (.istore 7, [], []), none, some (.iinc 6 (1), [], [(1, 0)]), none, none, some (.goto (-41), [34], []), none, none, some (.aload_n 0, [], []), some (.getfield 21, [12, 6, 1], [])], [none, none, some (.iload_n 1, [], []), some (.iload 5, [], []), none, some (.iastore, [], []), some (.iload 7, [], []), none, some (.ifCond .eq (10), [98], []), none, none, some (.iload 6, [], []), none, some (.iconst (1), [], [(1, 0)]), some (.isub, [], []), some (.goto (5), [100], [])], [none, none, some (.bipush (-2), [], [(-2, 0)]), none, some (.ireturn, [], [])]], 1, 8, [(34, [0, 1, 2, 3, 4, 5, 6, 7]), (78, [0, 1, 5, 6, 7])])
-- WhirlShaftsModel.heavier(III)I
def e_164 : q_E := ([[some (.aload_n 0, [], []), some (.iload_n 1, [], []), some (.iload_n 2, [], []), some (.invokevirtual 212, [155, 2, 1, 12], []), none, none, some (.ifCond .eq (12), [18], []), none, none, some (.iload_n 3, [], []), some (.iconst (0), [], [(0, 0)]), some (.iconst (1), [], [(1, 0)]), some (.invokestatic 122, [120, 3, 1], []), none, none, some (.ifCond .ne (5), [20], [])], [none, none, some (.iconst (-1), [], [(-1, 0)]), some (.ireturn, [], []), some (.bipush (-2), [], [(-2, 0)]), none, some (.istore 4, [], []), none, some (.bipush (-2), [], [(-2, 0)]), none, some (.istore 5, [], []), none, some (.iconst (0), [], [(0, 0)]), some (.istore 6, [], []), none, some (.iload 6, [], [])], [none, some (.aload_n 0, [], []), some (.getfield 119, [12, 0, 0], []), none, none, some (.if_icmp .ge (77), [114], []), none, none, some (.aload_n 0, [], []), some (.getfield 15, [12, 4, 1], []), none, none, some (.iload 6, [], []), none, some (.iaload, [], []), some (.bipush (99), [], [(99, 0)])], [none, some (.if_icmp .ne (6), [55], []), none, none, some (.goto (56), [108], []), none, none, some (.aload_n 0, [], []), some (.getfield 15, [12, 4, 1], []), none, none, some (.iload 6, [], []), none, some (.dup2, [], []), some (.iaload, [], []), some (.iconst (1), [], [(1, 0)])], [some (.iadd, [], []), some (.iastore, [], []), some (.aload_n 0, [], []), some (.iload_n 1, [], []), some (.iload_n 2, [], []), some (.invokevirtual 215, [133, 2, 1, 12], []), none, none, some (.istore 7, [], []), none, some (.aload_n 0, [], []), some (.getfield 15, [12, 4, 1], []), none, none, some (.iload 6, [], []), none], [some (.dup2, [], []), some (.iaload, [], []), some (.iconst (1), [], [(1, 0)]), some (.isub, [], []), some (.iastore, [], []), some (.iload 4, [], []), none, some (.ifCond .lt (13), [100], []), none, none, some (.iload 7, [], []), none, some (.iload 5, [], []), none, some (.if_icmp .lt (6), [100], []), none], [none, some (.goto (11), [108], []), none, none, some (.iload 6, [], []), none, some (.istore 4, [], []), none, some (.iload 7, [], []), none, some (.istore 5, [], []), none, some (.iinc 6 (1), [], [(1, 0)]), none, none, some (.goto (-80), [31], [])], [none, none, some (.iload_n 3, [], []), some (.ifCond .ne (8), [123], []), none, none, some (.iload 4, [], []), none, some (.goto (5), [125], []), none, none, some (.iload 5, [], []), none, some (.ireturn, [], [])]], 1, 8, [(31, [0, 1, 2, 3, 4, 5, 6])])
-- WhirlShaftsModel.swaps(I)V
def e_165 : q_E := ([[some (.aload_n 0, [], []), some (.getfield 9, [12, 3, 1], []), none, none, some (.iload_n 1, [], []), some (.iaload, [], []), some (.istore_n 2, [], []), some (.aload_n 0, [], []), some (.getfield 15, [12, 4, 1], []), none, none, some (.iload_n 1, [], []), some (.iaload, [], []), some (.istore_n 3, [], []), some (.aload_n 0, [], []), some (.getfield 9, [12, 3, 1], [])], [none, none, some (.iload_n 1, [], []), some (.aload_n 0, [], []), some (.getfield 9, [12, 3, 1], []), none, none, some (.iload_n 1, [], []), some (.iconst (1), [], [(1, 0)]), some (.iadd, [], []), some (.iaload, [], []), some (.iastore, [], []), some (.aload_n 0, [], []), some (.getfield 15, [12, 4, 1], []), none, none], [some (.iload_n 1, [], []), some (.aload_n 0, [], []), some (.getfield 15, [12, 4, 1], []), none, none, some (.iload_n 1, [], []), some (.iconst (1), [], [(1, 0)]), some (.iadd, [], []), some (.iaload, [], []), some (.iastore, [], []), some (.aload_n 0, [], []), some (.getfield 9, [12, 3, 1], []), none, none, some (.iload_n 1, [], []), some (.iconst (1), [], [(1, 0)])], [some (.iadd, [], []), some (.iload_n 2, [], []), some (.iastore, [], []), some (.aload_n 0, [], []), some (.getfield 15, [12, 4, 1], []), none, none, some (.iload_n 1, [], []), some (.iconst (1), [], [(1, 0)]), some (.iadd, [], []), some (.iload_n 3, [], []), some (.iastore, [], []), some (.return_, [], [])]], 0, 4, [])
-- WhirlShaftsModel.change(II)I
def e_166 : q_E := ([[some (.aload_n 0, [], []), some (.iload_n 1, [], []), some (.iload_n 2, [], []), some (.invokevirtual 212, [155, 2, 1, 12], []), none, none, some (.ifCond .ne (5), [11], []), none, none, some (.iconst (-1), [], [(-1, 0)]), some (.ireturn, [], []), some (.bipush (-2), [], [(-2, 0)]), none, some (.istore_n 3, [], []), some (.aload_n 0, [], []), some (.iload_n 1, [], [])], [some (.iload_n 2, [], []), some (.invokevirtual 215, [133, 2, 1, 12], []), none, none, some (.istore 4, [], []), none, some (.iconst (0), [], [(0, 0)]), some (.istore 5, [], []), none, some (.iload 5, [], []), none, some (.aload_n 0, [], []), some (.getfield 119, [12, 0, 0], []), none, none, some (.iconst (1), [], [(1, 0)])], [some (.isub, [], []), some (.if_icmp .ge (46), [79], []), none, none, some (.aload_n 0, [], []), some (.iload 5, [], []), none, some (.invokevirtual 224, [165, 1, 0, 12], []), none, none, some (.aload_n 0, [], []), some (.iload_n 1, [], []), some (.iload_n 2, [], []), some (.invokevirtual 215, [133, 2, 1, 12], []), none, none], [some (.istore 6, [], []), none, some (.aload_n 0, [], []), some (.iload 5, [], []), none, some (.invokevirtual 224, [165, 1, 0, 12], []), none, none, some (.iload 6, [], []), none, some (.iload 4, [], []), none, some (.if_icmp .gt (6), [66], []), none, none, some (.goto (10), [73], [])], [none, none, some (.iload 5, [], []), none, some (.istore_n 3, [], []), some (.iload 6, [], []), none, some (.istore 4, [], []), none, some (.iinc 5 (1), [], [(1, 0)]), none, none, some (.goto (-51), [25], []), none, none, some (.iload_n 3, [], [])], [some (.ireturn, [], [])]], 1, 7, [(25, [0, 1, 2, 3, 4, 5])])
-- WhirlShaftsModel.critical(I)I
def e_167 : q_E := ([[some (.aload_n 0, [], []), some (.iload_n 1, [], []), some (.invokevirtual 175, [121, 1, 1, 12], []), none, none, some (.ifCond .ne (5), [10], []), none, none, some (.iconst (-1), [], [(-1, 0)]), some (.ireturn, [], []), some (.aload_n 0, [], []), some (.getfield 130, [12, 1, 0], []), none, none, some (.istore_n 2, [], []), some (.bipush (-2), [], [(-2, 0)])], [none, some (.istore_n 3, [], []), some (.iconst (1), [], [(1, 0)]), some (.istore 4, [], []), none, some (.iload 4, [], []), none, some (.bipush (9), [], [(9, 0)]), none, some (.if_icmp .gt (40), [65], []), none, none, some (.iload_n 3, [], []), some (.ifCond .ge (36), [65], []), none, none], [some (.aload_n 0, [], []), some (.iload 4, [], []), none, some (.putfield 130, [12, 1, 0], []), none, none, some (.aload_n 0, [], []), some (.iload_n 1, [], []), some (.iconst (1), [], [(1, 0)]), some (.invokevirtual 215, [133, 2, 1, 12], []), none, none, some (.iload 4, [], []), none, some (.iload 4, [], []), none], [some (.imul, [], []), some (.if_icmp .gt (8), [57], []), none, none, some (.iload 4, [], []), none, some (.goto (4), [58], []), none, none, some (.iload_n 3, [], []), some (.istore_n 3, [], []), some (.iinc 4 (1), [], [(1, 0)]), none, none, some (.goto (-41), [21], []), none], [none, some (.aload_n 0, [], []), some (.iload_n 2, [], []), some (.putfield 130, [12, 1, 0], []), none, none, some (.iload_n 3, [], []), some (.ireturn, [], [])]], 1, 5, [(21, [0, 1, 2, 3, 4])])
-- WhirlShaftsModel.isRow(I)Z
def e_168 : q_E := ([[some (.iload_n 0, [], []), some (.iconst (0), [], [(0, 0)]), some (.iconst (2), [], [(2, 0)]), some (.invokestatic 122, [120, 3, 1], []), none, none, some (.ireturn, [], [])]], 2, 1, [])
-- WhirlShaftsModel.narrow(IJ)J
def e_169 : q_E := ([[some (.iload_n 0, [], []), some (.ifCond .ne (10), [11], []), none, none, some (.lload_n 1, [], []), some (.l2i, [], []), some (.i2b, [], []), some (.i2l, [], []), some (.goto (15), [23], []), none, none, some (.iload_n 0, [], []), some (.iconst (1), [], [(1, 0)]), some (.if_icmp .ne (9), [22], []), none, none], [some (.lload_n 1, [], []), some (.l2i, [], []), some (.i2l, [], []), some (.goto (4), [23], []), none, none, some (.lload_n 1, [], []), some (.lreturn, [], [])]], 3, 3, [])
-- WhirlShaftsModel.row(III)I
def e_170 : q_E := ([[some (.iload_n 1, [], []), some (.invokestatic 228, [168, 1, 1], []), none, none, some (.ifCond .eq (22), [26], []), none, none, some (.iload_n 2, [], []), some (.iconst (-1), [], [(-1, 0)]), some (.iconst (2), [], [(2, 0)]), some (.invokestatic 122, [120, 3, 1], []), none, none, some (.ifCond .eq (13), [26], []), none, none], [some (.iload_n 2, [], []), some (.ifCond .lt (11), [28], []), none, none, some (.iload_n 3, [], []), some (.bipush (40), [], [(40, 0)]), none, some (.if_icmp .le (5), [28], []), none, none, some (.iconst (-1), [], [(-1, 0)]), some (.ireturn, [], []), some (.iload_n 2, [], []), some (.ifCond .lt (10), [39], []), none, none], [some (.iload_n 3, [], []), some (.ifCond .ge (6), [39], []), none, none, some (.bipush (-14), [], [(-14, 0)]), none, some (.ireturn, [], []), some (.aload_n 0, [], []), some (.getfield 64, [12, 22, 1], []), none, none, some (.iload_n 1, [], []), some (.iload_n 2, [], []), some (.iastore, [], []), some (.aload_n 0, [], []), some (.getfield 67, [12, 23, 1], [])], [none, none, some (.iload_n 1, [], []), some (.iload_n 2, [], []), some (.ifCond .ge (7), [59], []), none, none, some (.iconst (0), [], [(0, 0)]), some (.goto (4), [60], []), none, none, some (.iload_n 3, [], []), some (.iastore, [], []), some (.iconst (0), [], [(0, 0)]), some (.istore 4, [], []), none], [some (.iload 4, [], []), none, some (.bipush (40), [], [(40, 0)]), none, some (.if_icmp .ge (22), [90], []), none, none, some (.aload_n 0, [], []), some (.getfield 70, [12, 24, 1], []), none, none, some (.bipush (40), [], [(40, 0)]), none, some (.iload_n 1, [], []), some (.imul, [], []), some (.iload 4, [], [])], [none, some (.iadd, [], []), some (.lconst 0, [], []), some (.lastore, [], []), some (.iinc 4 (1), [], [(1, 0)]), none, none, some (.goto (-23), [64], []), none, none, some (.iconst (1), [], [(1, 0)]), some (.ireturn, [], [])]], 1, 5, [(39, [0, 1, 2, 3]), (64, [0, 1, 4])])
-- WhirlShaftsModel.put(IIJ)I
def e_171 : q_E := ([[some (.iload_n 1, [], []), some (.invokestatic 228, [168, 1, 1], []), none, none, some (.ifCond .ne (5), [9], []), none, none, some (.iconst (-1), [], [(-1, 0)]), some (.ireturn, [], []), some (.aload_n 0, [], []), some (.getfield 64, [12, 22, 1], []), none, none, some (.iload_n 1, [], []), some (.iaload, [], []), some (.ifCond .ge (6), [21], [])], [none, none, some (.bipush (-11), [], [(-11, 0)]), none, some (.ireturn, [], []), some (.iload_n 2, [], []), some (.iconst (0), [], [(0, 0)]), some (.aload_n 0, [], []), some (.getfield 67, [12, 23, 1], []), none, none, some (.iload_n 1, [], []), some (.iaload, [], []), some (.iconst (1), [], [(1, 0)]), some (.isub, [], []), some (.invokestatic 122, [120, 3, 1], [])], [none, none, some (.ifCond .ne (6), [40], []), none, none, some (.bipush (-13), [], [(-13, 0)]), none, some (.ireturn, [], []), some (.aload_n 0, [], []), some (.getfield 70, [12, 24, 1], []), none, none, some (.bipush (40), [], [(40, 0)]), none, some (.iload_n 1, [], []), some (.imul, [], [])], [some (.iload_n 2, [], []), some (.iadd, [], []), some (.aload_n 0, [], []), some (.getfield 64, [12, 22, 1], []), none, none, some (.iload_n 1, [], []), some (.iaload, [], []), some (.lload_n 3, [], []), some (.invokestatic 231, [169, 2, 3], []), none, none, some (.lastore, [], []), some (.iconst (1), [], [(1, 0)]), some (.ireturn, [], [])]], 1, 5, [])
-- WhirlShaftsModel.get(II)J
def e_172 : q_E := ([[some (.iload_n 1, [], []), some (.invokestatic 228, [168, 1, 1], []), none, none, some (.ifCond .eq (42), [46], []), none, none, some (.aload_n 0, [], []), some (.getfield 64, [12, 22, 1], []), none, none, some (.iload_n 1, [], []), some (.iaload, [], []), some (.ifCond .lt (33), [46], []), none, none], [some (.iload_n 2, [], []), some (.iconst (0), [], [(0, 0)]), some (.aload_n 0, [], []), some (.getfield 67, [12, 23, 1], []), none, none, some (.iload_n 1, [], []), some (.iaload, [], []), some (.iconst (1), [], [(1, 0)]), some (.isub, [], []), some (.invokestatic 122, [120, 3, 1], []), none, none, some (.ifCond .eq (17), [46], []), none, none], [some (.aload_n 0, [], []), some (.getfield 70, [12, 24, 1], []), none, none, some (.bipush (40), [], [(40, 0)]), none, some (.iload_n 1, [], []), some (.imul, [], []), some (.iload_n 2, [], []), some (.iadd, [], []), some (.laload, [], []), some (.goto (6), [49], []), none, none, some (.ldc2_w 235, [9223372036854775808], []), none], [none, some (.lreturn, [], [])]], 3, 3, [])
-- WhirlShaftsModel.film(III)I
def e_173 : q_E := ([[some (.iload_n 1, [], []), some (.invokestatic 228, [168, 1, 1], []), none, none, some (.ifCond .eq (19), [23], []), none, none, some (.iload_n 2, [], []), some (.iconst (0), [], [(0, 0)]), some (.iconst (2), [], [(2, 0)]), some (.invokestatic 122, [120, 3, 1], []), none, none, some (.ifCond .eq (10), [23], []), none, none], [some (.iload_n 3, [], []), some (.invokestatic 126, [123, 1, 1], []), none, none, some (.ifCond .ne (5), [25], []), none, none, some (.iconst (-1), [], [(-1, 0)]), some (.ireturn, [], []), some (.aload_n 0, [], []), some (.getfield 64, [12, 22, 1], []), none, none, some (.iload_n 1, [], []), some (.iload_n 2, [], []), some (.iastore, [], [])], [some (.aload_n 0, [], []), some (.getfield 67, [12, 23, 1], []), none, none, some (.iload_n 1, [], []), some (.aload_n 0, [], []), some (.getfield 119, [12, 0, 0], []), none, none, some (.iastore, [], []), some (.iconst (0), [], [(0, 0)]), some (.istore 4, [], []), none, some (.iload 4, [], []), none, some (.bipush (40), [], [(40, 0)])], [none, some (.if_icmp .ge (46), [95], []), none, none, some (.aload_n 0, [], []), some (.getfield 70, [12, 24, 1], []), none, none, some (.bipush (40), [], [(40, 0)]), none, some (.iload_n 1, [], []), some (.imul, [], []), some (.iload 4, [], []), none, some (.iadd, [], []), some (.iload 4, [], [])], [none, some (.aload_n 0, [], []), some (.getfield 119, [12, 0, 0], []), none, none, some (.if_icmp .ge (18), [87], []), none, none, some (.iload_n 2, [], []), some (.aload_n 0, [], []), some (.iload 4, [], []), none, some (.iload_n 3, [], []), some (.invokevirtual 215, [133, 2, 1, 12], []), none, none], [some (.i2l, [], []), some (.invokestatic 231, [169, 2, 3], []), none, none, some (.goto (4), [88], []), none, none, some (.lconst 0, [], []), some (.lastore, [], []), some (.iinc 4 (1), [], [(1, 0)]), none, none, some (.goto (-47), [45], []), none, none, some (.aload_n 0, [], [])], [some (.getfield 119, [12, 0, 0], []), none, none, some (.ireturn, [], [])]], 1, 5, [(45, [0, 1, 2, 3, 4])])
-- WhirlShaftsModel.copy(IIIII)I
def e_174 : q_E := ([[some (.iload_n 1, [], []), some (.invokestatic 228, [168, 1, 1], []), none, none, some (.ifCond .eq (10), [14], []), none, none, some (.iload_n 3, [], []), some (.invokestatic 228, [168, 1, 1], []), none, none, some (.ifCond .ne (5), [16], []), none, none, some (.iconst (-1), [], [(-1, 0)]), some (.ireturn, [], [])], [some (.aload_n 0, [], []), some (.getfield 64, [12, 22, 1], []), none, none, some (.iload_n 1, [], []), some (.iaload, [], []), some (.ifCond .lt (12), [34], []), none, none, some (.aload_n 0, [], []), some (.getfield 64, [12, 22, 1], []), none, none, some (.iload_n 3, [], []), some (.iaload, [], []), some (.ifCond .ge (6), [37], [])], [none, none, some (.bipush (-11), [], [(-11, 0)]), none, some (.ireturn, [], []), some (.aload_n 0, [], []), some (.getfield 64, [12, 22, 1], []), none, none, some (.iload_n 1, [], []), some (.iaload, [], []), some (.aload_n 0, [], []), some (.getfield 64, [12, 22, 1], []), none, none, some (.iload_n 3, [], [])], [some (.iaload, [], []), some (.if_icmp .eq (6), [55], []), none, none, some (.bipush (-12), [], [(-12, 0)]), none, some (.ireturn, [], []), some (.iload 5, [], []), none, some (.ifCond .lt (47), [104], []), none, none, some (.iload_n 2, [], []), some (.ifCond .lt (43), [104], []), none, none], [some (.iload 4, [], []), none, some (.ifCond .lt (38), [104], []), none, none, some (.iload_n 2, [], []), some (.i2l, [], []), some (.iload 5, [], []), none, some (.i2l, [], []), some (.ladd, [], []), some (.aload_n 0, [], []), some (.getfield 67, [12, 23, 1], []), none, none, some (.iload_n 1, [], [])], [some (.iaload, [], []), some (.i2l, [], []), some (.lcmp, [], []), some (.ifCond .gt (21), [104], []), none, none, some (.iload 4, [], []), none, some (.i2l, [], []), some (.iload 5, [], []), none, some (.i2l, [], []), some (.ladd, [], []), some (.aload_n 0, [], []), some (.getfield 67, [12, 23, 1], []), none], [none, some (.iload_n 3, [], []), some (.iaload, [], []), some (.i2l, [], []), some (.lcmp, [], []), some (.ifCond .le (6), [107], []), none, none, some (.bipush (-13), [], [(-13, 0)]), none, some (.ireturn, [], []), some (.iconst (0), [], [(0, 0)]), some (.istore 6, [], []), none, some (.iload 6, [], []), none], [some (.iload 5, [], []), none, some (.if_icmp .ge (30), [144], []), none, none, some (.aload_n 0, [], []), some (.getfield 73, [12, 25, 1], []), none, none, some (.iload 6, [], []), none, some (.aload_n 0, [], []), some (.getfield 70, [12, 24, 1], []), none, none, some (.bipush (40), [], [(40, 0)])], [none, some (.iload_n 1, [], []), some (.imul, [], []), some (.iload_n 2, [], []), some (.iadd, [], []), some (.iload 6, [], []), none, some (.iadd, [], []), some (.laload, [], []), some (.lastore, [], []), some (.iinc 6 (1), [], [(1, 0)]), none, none, some (.goto (-31), [110], []), none, none], [some (.iconst (0), [], [(0, 0)]), some (.istore 6, [], []), none, some (.iload 6, [], []), none, some (.iload 5, [], []), none, some (.if_icmp .ge (31), [182], []), none, none, some (.aload_n 0, [], []), some (.getfield 70, [12, 24, 1], []), none, none, some (.bipush (40), [], [(40, 0)]), none], [some (.iload_n 3, [], []), some (.imul, [], []), some (.iload 4, [], []), none, some (.iadd, [], []), some (.iload 6, [], []), none, some (.iadd, [], []), some (.aload_n 0, [], []), some (.getfield 73, [12, 25, 1], []), none, none, some (.iload 6, [], []), none, some (.laload, [], []), some (.lastore, [], [])], [some (.iinc 6 (1), [], [(1, 0)]), none, none, some (.goto (-32), [147], []), none, none, some (.iload 5, [], []), none, some (.ireturn, [], [])]], 1, 7, [(110, [0, 1, 2, 3, 4, 5, 6]), (147, [0, 3, 4, 5, 6])])
-- WhirlShaftsModel.isSo(III)Z
def e_175 : q_E := ([[some (.iconst (0), [], [(0, 0)]), some (.istore 4, [], []), none, some (.iload 4, [], []), none, some (.iload_n 2, [], []), some (.if_icmp .ge (33), [39], []), none, none, some (.aload_n 0, [], []), some (.iload 4, [], []), none, some (.iload_n 3, [], []), some (.invokevirtual 215, [133, 2, 1, 12], []), none, none], [some (.i2l, [], []), some (.aload_n 0, [], []), some (.getfield 70, [12, 24, 1], []), none, none, some (.bipush (40), [], [(40, 0)]), none, some (.iload_n 1, [], []), some (.imul, [], []), some (.iload 4, [], []), none, some (.iadd, [], []), some (.laload, [], []), some (.lcmp, [], []), some (.ifCond .ne (9), [39], []), none], [none, some (.iinc 4 (1), [], [(1, 0)]), none, none, some (.goto (-33), [3], []), none, none, some (.iload 4, [], []), none, some (.iload_n 2, [], []), some (.if_icmp .ne (7), [49], []), none, none, some (.iconst (1), [], [(1, 0)]), some (.goto (4), [50], []), none], [none, some (.iconst (0), [], [(0, 0)]), some (.ireturn, [], [])]], 2, 5, [(3, [0, 1, 2, 3, 4])])
-- WhirlShaftsModel.fits(IIIII)I
def e_176 : q_E := ([[some (.iload_n 1, [], []), some (.invokestatic 228, [168, 1, 1], []), none, none, some (.ifCond .eq (41), [45], []), none, none, some (.iload_n 2, [], []), some (.iconst (0), [], [(0, 0)]), some (.aload_n 0, [], []), some (.getfield 119, [12, 0, 0], []), none, none, some (.invokestatic 122, [120, 3, 1], []), none, none], [some (.ifCond .eq (29), [45], []), none, none, some (.iload_n 3, [], []), some (.invokestatic 126, [123, 1, 1], []), none, none, some (.ifCond .eq (22), [45], []), none, none, some (.aload_n 0, [], []), some (.iload 4, [], []), none, some (.invokevirtual 175, [121, 1, 1, 12], []), none, none], [some (.ifCond .eq (13), [45], []), none, none, some (.iload 5, [], []), none, some (.iconst (0), [], [(0, 0)]), some (.iconst (2), [], [(2, 0)]), some (.invokestatic 122, [120, 3, 1], []), none, none, some (.ifCond .ne (5), [47], []), none, none, some (.iconst (-1), [], [(-1, 0)]), some (.ireturn, [], []), some (.aload_n 0, [], [])], [some (.getfield 64, [12, 22, 1], []), none, none, some (.iload_n 1, [], []), some (.iaload, [], []), some (.ifCond .ge (6), [59], []), none, none, some (.bipush (-11), [], [(-11, 0)]), none, some (.ireturn, [], []), some (.aload_n 0, [], []), some (.getfield 67, [12, 23, 1], []), none, none, some (.iload_n 1, [], [])], [some (.iaload, [], []), some (.iload_n 2, [], []), some (.if_icmp .ge (6), [72], []), none, none, some (.bipush (-13), [], [(-13, 0)]), none, some (.ireturn, [], []), some (.iload 5, [], []), none, some (.iconst (2), [], [(2, 0)]), some (.if_icmp .ne (15), [90], []), none, none, some (.aload_n 0, [], []), some (.iload_n 1, [], [])], [some (.iload_n 2, [], []), some (.iload_n 3, [], []), some (.iload 4, [], []), none, some (.invokevirtual 237, [177, 4, 1, 12], []), none, none, some (.goto (14), [101], []), none, none, some (.aload_n 0, [], []), some (.iload_n 1, [], []), some (.iload_n 2, [], []), some (.iload_n 3, [], []), some (.iload 4, [], []), none], [some (.iload 5, [], []), none, some (.invokevirtual 240, [178, 5, 1, 12], []), none, none, some (.ireturn, [], [])]], 1, 6, [])
-- WhirlShaftsModel.fittingKinds(IIII)I
def e_177 : q_E := ([[some (.aload_n 0, [], []), some (.getfield 9, [12, 3, 1], []), none, none, some (.iload 4, [], []), none, some (.iaload, [], []), some (.istore 5, [], []), none, some (.iconst (0), [], [(0, 0)]), some (.istore 6, [], []), none, some (.iconst (0), [], [(0, 0)]), some (.istore 7, [], []), none, some (.iload 7, [], [])], [none, some (.iconst (5), [], [(5, 0)]), some (.if_icmp .ge (41), [59], []), none, none, some (.aload_n 0, [], []), some (.getfield 9, [12, 3, 1], []), none, none, some (.iload 4, [], []), none, some (.iload 7, [], []), none, some (.iastore, [], []), some (.iload 6, [], []), none], [some (.aload_n 0, [], []), some (.iload_n 1, [], []), some (.iload_n 2, [], []), some (.iload_n 3, [], []), some (.invokevirtual 244, [175, 3, 1, 12], []), none, none, some (.ifCond .eq (10), [49], []), none, none, some (.iconst (1), [], [(1, 0)]), some (.iload 7, [], []), none, some (.ishl, [], []), some (.goto (4), [50], []), none], [none, some (.iconst (0), [], [(0, 0)]), some (.ior, [], []), some (.istore 6, [], []), none, some (.iinc 7 (1), [], [(1, 0)]), none, none, some (.goto (-41), [15], []), none, none, some (.aload_n 0, [], []), some (.getfield 9, [12, 3, 1], []), none, none, some (.iload 4, [], [])], [none, some (.iload 5, [], []), none, some (.iastore, [], []), some (.iload 6, [], []), none, some (.ireturn, [], [])]], 1, 8, [(15, [0, 1, 2, 3, 4, 5, 6, 7])])
-- WhirlShaftsModel.fittingMasses(IIIII)I
def e_178 : q_E := ([[some (.aload_n 0, [], []), some (.getfield 15, [12, 4, 1], []), none, none, some (.iload 4, [], []), none, some (.iaload, [], []), some (.istore 6, [], []), none, some (.iconst (0), [], [(0, 0)]), some (.istore 7, [], []), none, some (.bipush (-2), [], [(-2, 0)]), none, some (.istore 8, [], []), none], [some (.bipush (99), [], [(99, 0)]), none, some (.istore 9, [], []), none, some (.iload 9, [], []), none, some (.ifCond .le (38), [60], []), none, none, some (.aload_n 0, [], []), some (.getfield 15, [12, 4, 1], []), none, none, some (.iload 4, [], []), none, some (.iload 9, [], [])], [none, some (.iastore, [], []), some (.aload_n 0, [], []), some (.iload_n 1, [], []), some (.iload_n 2, [], []), some (.iload_n 3, [], []), some (.invokevirtual 244, [175, 3, 1, 12], []), none, none, some (.ifCond .ne (6), [47], []), none, none, some (.goto (10), [54], []), none, none, some (.iinc 7 (1), [], [(1, 0)])], [none, none, some (.iload 9, [], []), none, some (.istore 8, [], []), none, some (.iinc 9 (-1), [], [(-1, 0)]), none, none, some (.goto (-37), [20], []), none, none, some (.aload_n 0, [], []), some (.getfield 15, [12, 4, 1], []), none, none], [some (.iload 4, [], []), none, some (.iload 6, [], []), none, some (.iastore, [], []), some (.iload 5, [], []), none, some (.ifCond .ne (8), [79], []), none, none, some (.iload 7, [], []), none, some (.goto (5), [81], []), none, none, some (.iload 8, [], [])], [none, some (.ireturn, [], [])]], 1, 10, [(20, [0, 1, 2, 3, 4, 5, 6, 7, 8, 9])])
-- WhirlShaftsModel.judge(II)I
def e_179 : q_E := ([[some (.iload_n 1, [], []), some (.invokestatic 228, [168, 1, 1], []), none, none, some (.ifCond .eq (10), [14], []), none, none, some (.iload_n 2, [], []), some (.invokestatic 126, [123, 1, 1], []), none, none, some (.ifCond .ne (5), [16], []), none, none, some (.iconst (-1), [], [(-1, 0)]), some (.ireturn, [], [])], [some (.aload_n 0, [], []), some (.getfield 64, [12, 22, 1], []), none, none, some (.iload_n 1, [], []), some (.iaload, [], []), some (.ifCond .ge (6), [28], []), none, none, some (.bipush (-11), [], [(-11, 0)]), none, some (.ireturn, [], []), some (.iconst (0), [], [(0, 0)]), some (.istore_n 3, [], []), some (.iload_n 3, [], []), some (.aload_n 0, [], [])], [some (.getfield 119, [12, 0, 0], []), none, none, some (.if_icmp .ge (48), [83], []), none, none, some (.iload_n 3, [], []), some (.aload_n 0, [], []), some (.getfield 67, [12, 23, 1], []), none, none, some (.iload_n 1, [], []), some (.iaload, [], []), some (.if_icmp .lt (8), [53], []), none, none], [some (.bipush (100), [], [(100, 0)]), none, some (.iload_n 3, [], []), some (.iadd, [], []), some (.ireturn, [], []), some (.aload_n 0, [], []), some (.iload_n 3, [], []), some (.iload_n 2, [], []), some (.invokevirtual 215, [133, 2, 1, 12], []), none, none, some (.i2l, [], []), some (.aload_n 0, [], []), some (.getfield 70, [12, 24, 1], []), none, none], [some (.bipush (40), [], [(40, 0)]), none, some (.iload_n 1, [], []), some (.imul, [], []), some (.iload_n 3, [], []), some (.iadd, [], []), some (.laload, [], []), some (.lcmp, [], []), some (.ifCond .eq (5), [77], []), none, none, some (.iload_n 3, [], []), some (.ireturn, [], []), some (.iinc 3 (1), [], [(1, 0)]), none, none], [some (.goto (-50), [30], []), none, none, some (.bipush (-2), [], [(-2, 0)]), none, some (.ireturn, [], [])]], 1, 4, [(30, [0, 1, 2, 3])])
-- WhirlShaftsModel.order(III)I
def e_180 : q_E := ([[some (.iload_n 1, [], []), some (.iconst (0), [], [(0, 0)]), some (.iconst (5), [], [(5, 0)]), some (.invokestatic 122, [120, 3, 1], []), none, none, some (.ifCond .ne (5), [11], []), none, none, some (.iconst (-1), [], [(-1, 0)]), some (.ireturn, [], []), some (.aload_n 0, [], []), some (.getfield 247, [12, 26, 0], []), none, none, some (.bipush (8), [], [(8, 0)])], [none, some (.if_icmp .ne (6), [23], []), none, none, some (.bipush (-3), [], [(-3, 0)]), none, some (.ireturn, [], []), some (.aload_n 0, [], []), some (.getfield 76, [12, 27, 1], []), none, none, some (.aload_n 0, [], []), some (.getfield 247, [12, 26, 0], []), none, none, some (.iload_n 1, [], [])], [some (.iastore, [], []), some (.aload_n 0, [], []), some (.getfield 79, [12, 28, 1], []), none, none, some (.aload_n 0, [], []), some (.getfield 247, [12, 26, 0], []), none, none, some (.iload_n 2, [], []), some (.iastore, [], []), some (.aload_n 0, [], []), some (.getfield 82, [12, 29, 1], []), none, none, some (.aload_n 0, [], [])], [some (.getfield 247, [12, 26, 0], []), none, none, some (.iload_n 3, [], []), some (.iastore, [], []), some (.aload_n 0, [], []), some (.dup, [], []), some (.getfield 247, [12, 26, 0], []), none, none, some (.iconst (1), [], [(1, 0)]), some (.iadd, [], []), some (.putfield 247, [12, 26, 0], []), none, none, some (.aload_n 0, [], [])], [some (.getfield 247, [12, 26, 0], []), none, none, some (.ireturn, [], [])]], 1, 4, [])
-- WhirlShaftsModel.tried(II)I
def e_181 : q_E := ([[some (.aload_n 0, [], []), some (.iload_n 1, [], []), some (.iload_n 2, [], []), some (.invokevirtual 212, [155, 2, 1, 12], []), none, none, some (.ifCond .ne (5), [11], []), none, none, some (.iconst (-1), [], [(-1, 0)]), some (.ireturn, [], []), some (.aload_n 0, [], []), some (.iconst (0), [], [(0, 0)]), some (.iconst (1), [], [(1, 0)]), some (.invokevirtual 250, [202, 2, 0, 12], []), none], [none, some (.iconst (0), [], [(0, 0)]), some (.istore_n 3, [], []), some (.iload_n 3, [], []), some (.aload_n 0, [], []), some (.getfield 247, [12, 26, 0], []), none, none, some (.if_icmp .ge (56), [80], []), none, none, some (.aload_n 0, [], []), some (.aload_n 0, [], []), some (.getfield 76, [12, 27, 1], []), none, none], [some (.iload_n 3, [], []), some (.iaload, [], []), some (.aload_n 0, [], []), some (.getfield 79, [12, 28, 1], []), none, none, some (.iload_n 3, [], []), some (.iaload, [], []), some (.aload_n 0, [], []), some (.getfield 82, [12, 29, 1], []), none, none, some (.iload_n 3, [], []), some (.iaload, [], []), some (.invokevirtual 194, [143, 3, 1, 12], []), none], [none, some (.ifCond .ne (25), [74], []), none, none, some (.aload_n 0, [], []), some (.aload_n 0, [], []), some (.getfield 76, [12, 27, 1], []), none, none, some (.iload_n 3, [], []), some (.iaload, [], []), some (.aload_n 0, [], []), some (.getfield 79, [12, 28, 1], []), none, none, some (.iload_n 3, [], [])], [some (.iaload, [], []), some (.aload_n 0, [], []), some (.getfield 82, [12, 29, 1], []), none, none, some (.iload_n 3, [], []), some (.iaload, [], []), some (.invokevirtual 205, [139, 3, 0, 12], []), none, none, some (.iinc 3 (1), [], [(1, 0)]), none, none, some (.goto (-58), [19], []), none, none], [some (.aload_n 0, [], []), some (.iload_n 1, [], []), some (.iload_n 2, [], []), some (.invokevirtual 215, [133, 2, 1, 12], []), none, none, some (.istore_n 3, [], []), some (.aload_n 0, [], []), some (.iconst (0), [], [(0, 0)]), some (.iconst (0), [], [(0, 0)]), some (.invokevirtual 250, [202, 2, 0, 12], []), none, none, some (.iload_n 3, [], []), some (.ireturn, [], [])]], 1, 4, [(19, [0, 1, 2, 3])])
-- WhirlShaftsModel.does()I
def e_182 : q_E := ([[some (.iconst (0), [], [(0, 0)]), some (.istore_n 1, [], []), some (.iconst (0), [], [(0, 0)]), some (.istore_n 2, [], []), some (.iload_n 2, [], []), some (.aload_n 0, [], []), some (.getfield 247, [12, 26, 0], []), none, none, some (.if_icmp .ge (42), [51], []), none, none, some (.iload_n 1, [], []), some (.aload_n 0, [], []), some (.aload_n 0, [], []), some (.getfield 76, [12, 27, 1], [])], [none, none, some (.iload_n 2, [], []), some (.iaload, [], []), some (.aload_n 0, [], []), some (.getfield 79, [12, 28, 1], []), none, none, some (.iload_n 2, [], []), some (.iaload, [], []), some (.aload_n 0, [], []), some (.getfield 82, [12, 29, 1], []), none, none, some (.iload_n 2, [], []), some (.iaload, [], [])], [some (.invokevirtual 254, [145, 3, 1, 12], []), none, none, some (.ifCond .lt (7), [42], []), none, none, some (.iconst (1), [], [(1, 0)]), some (.goto (4), [43], []), none, none, some (.iconst (0), [], [(0, 0)]), some (.iadd, [], []), some (.istore_n 1, [], []), some (.iinc 2 (1), [], [(1, 0)]), none, none], [some (.goto (-44), [4], []), none, none, some (.aload_n 0, [], []), some (.iconst (0), [], [(0, 0)]), some (.putfield 247, [12, 26, 0], []), none, none, some (.iload_n 1, [], []), some (.ireturn, [], [])]], 1, 3, [(4, [0, 1, 2])])
-- WhirlShaftsModel.drop()I
def e_183 : q_E := ([[some (.aload_n 0, [], []), some (.getfield 247, [12, 26, 0], []), none, none, some (.istore_n 1, [], []), some (.aload_n 0, [], []), some (.iconst (0), [], [(0, 0)]), some (.putfield 247, [12, 26, 0], []), none, none, some (.iload_n 1, [], []), some (.ireturn, [], [])]], 1, 2, [])
-- WhirlShaftsModel.feed(I)I
def e_184 : q_E := ([[some (.iload_n 1, [], []), some (.bipush (32), [], [(32, 0)]), none, some (.bipush (126), [], [(126, 0)]), none, some (.invokestatic 122, [120, 3, 1], []), none, none, some (.ifCond .ne (5), [13], []), none, none, some (.iconst (-1), [], [(-1, 0)]), some (.ireturn, [], []), some (.aload_n 0, [], []), some (.getfield 257, [12, 35, 0], []), none], [none, some (.bipush (80), [], [(80, 0)]), none, some (.if_icmp .ne (6), [25], []), none, none, some (.bipush (-3), [], [(-3, 0)]), none, some (.ireturn, [], []), some (.aload_n 0, [], []), some (.getfield 85, [12, 30, 1], []), none, none, some (.aload_n 0, [], []), some (.getfield 257, [12, 35, 0], []), none], [none, some (.iload_n 1, [], []), some (.iastore, [], []), some (.aload_n 0, [], []), some (.dup, [], []), some (.getfield 257, [12, 35, 0], []), none, none, some (.iconst (1), [], [(1, 0)]), some (.iadd, [], []), some (.putfield 257, [12, 35, 0], []), none, none, some (.aload_n 0, [], []), some (.getfield 257, [12, 35, 0], []), none], [none, some (.ireturn, [], [])]], 1, 2, [])
-- WhirlShaftsModel.wipe()I
def e_185 : q_E := ([[some (.aload_n 0, [], []), some (.getfield 257, [12, 35, 0], []), none, none, some (.istore_n 1, [], []), some (.aload_n 0, [], []), some (.iconst (0), [], [(0, 0)]), some (.putfield 257, [12, 35, 0], []), none, none, some (.iload_n 1, [], []), some (.ireturn, [], [])]], 1, 2, [])
-- WhirlShaftsModel.next()I
def e_186 : q_E := ([[some (.aload_n 0, [], []), some (.getfield 260, [12, 36, 0], []), none, none, some (.aload_n 0, [], []), some (.getfield 257, [12, 35, 0], []), none, none, some (.if_icmp .ge (15), [23], []), none, none, some (.aload_n 0, [], []), some (.getfield 85, [12, 30, 1], []), none, none, some (.aload_n 0, [], [])], [some (.getfield 260, [12, 36, 0], []), none, none, some (.iaload, [], []), some (.goto (4), [24], []), none, none, some (.iconst (-1), [], [(-1, 0)]), some (.ireturn, [], [])]], 1, 1, [])
-- WhirlShaftsModel.numbersOf(I)I
def e_187 : q_E := ([[some (.iload_n 0, [], []), some (.tableswitch (115) (98) (120) #[109, 115, 107, 115, 115, 109, 115, 109, 115, 109, 115, 115, 111, 115, 115, 115, 115, 115, 115, 115, 115, 111, 113], [116], [(98, 110), (99, 116), (100, 108), (101, 116), (102, 116), (103, 110), (104, 116), (105, 110), (106, 116), (107, 110), (108, 116), (109, 116), (110, 112), (111, 116), (112, 116), (113, 116), (114, 116), (115, 116), (116, 116), (117, 116), (118, 116), (119, 112), (120, 114)]), none, none, none, none, none, none, none, none, none, none, none, none, none, none], [none, none, none, none, none, none, none, none, none, none, none, none, none, none, none, none], [none, none, none, none, none, none, none, none, none, none, none, none, none, none, none, none], [none, none, none, none, none, none, none, none, none, none, none, none, none, none, none, none], [none, none, none, none, none, none, none, none, none, none, none, none, none, none, none, none], [none, none, none, none, none, none, none, none, none, none, none, none, none, none, none, none], [none, none, none, none, none, none, none, none, none, none, none, none, some (.iconst (3), [], [(3, 0)]), some (.ireturn, [], []), some (.iconst (2), [], [(2, 0)]), some (.ireturn, [], [])], [some (.iconst (1), [], [(1, 0)]), some (.ireturn, [], []), some (.iconst (0), [], [(0, 0)]), some (.ireturn, [], []), some (.iconst (-1), [], [(-1, 0)]), some (.ireturn, [], [])]], 1, 1, [])
-- WhirlShaftsModel.number()I
def e_188 : q_E := ([[some (.aload_n 0, [], []), some (.invokevirtual 263, [186, 0, 1, 12], []), none, none, some (.bipush (48), [], [(48, 0)]), none, some (.bipush (57), [], [(57, 0)]), none, some (.invokestatic 122, [120, 3, 1], []), none, none, some (.ifCond .ne (5), [16], []), none, none, some (.iconst (-1), [], [(-1, 0)]), some (.ireturn, [], [])], [some (.aload_n 0, [], []), some (.invokevirtual 263, [186, 0, 1, 12], []), none, none, some (.bipush (48), [], [(48, 0)]), none, some (.isub, [], []), some (.istore_n 1, [], []), some (.aload_n 0, [], []), some (.dup, [], []), some (.getfield 260, [12, 36, 0], []), none, none, some (.iconst (1), [], [(1, 0)]), some (.iadd, [], []), some (.putfield 260, [12, 36, 0], [])], [none, none, some (.aload_n 0, [], []), some (.invokevirtual 263, [186, 0, 1, 12], []), none, none, some (.bipush (48), [], [(48, 0)]), none, some (.bipush (57), [], [(57, 0)]), none, some (.invokestatic 122, [120, 3, 1], []), none, none, some (.ifCond .ne (5), [50], []), none, none], [some (.iload_n 1, [], []), some (.ireturn, [], []), some (.bipush (10), [], [(10, 0)]), none, some (.iload_n 1, [], []), some (.imul, [], []), some (.aload_n 0, [], []), some (.invokevirtual 263, [186, 0, 1, 12], []), none, none, some (.iadd, [], []), some (.bipush (48), [], [(48, 0)]), none, some (.isub, [], []), some (.istore_n 1, [], []), some (.aload_n 0, [], [])], [some (.dup, [], []), some (.getfield 260, [12, 36, 0], []), none, none, some (.iconst (1), [], [(1, 0)]), some (.iadd, [], []), some (.putfield 260, [12, 36, 0], []), none, none, some (.iload_n 1, [], []), some (.ireturn, [], [])]], 1, 2, [])
-- WhirlShaftsModel.reads()Z
def e_189 : q_E := ([[some (.aload_n 0, [], []), some (.invokevirtual 263, [186, 0, 1, 12], []), none, none, some (.invokestatic 266, [187, 1, 1], []), none, none, some (.istore_n 1, [], []), some (.iload_n 1, [], []), some (.ifCond .ge (5), [14], []), none, none, some (.iconst (0), [], [(0, 0)]), some (.ireturn, [], []), some (.aload_n 0, [], []), some (.getfield 88, [12, 31, 1], [])], [none, none, some (.aload_n 0, [], []), some (.getfield 269, [12, 37, 0], []), none, none, some (.aload_n 0, [], []), some (.invokevirtual 263, [186, 0, 1, 12], []), none, none, some (.iastore, [], []), some (.aload_n 0, [], []), some (.dup, [], []), some (.getfield 260, [12, 36, 0], []), none, none], [some (.iconst (1), [], [(1, 0)]), some (.iadd, [], []), some (.putfield 260, [12, 36, 0], []), none, none, some (.iconst (0), [], [(0, 0)]), some (.istore_n 2, [], []), some (.iload_n 2, [], []), some (.iload_n 1, [], []), some (.if_icmp .ge (89), [130], []), none, none, some (.iload_n 2, [], []), some (.ifCond .le (24), [69], []), none, none], [some (.aload_n 0, [], []), some (.invokevirtual 263, [186, 0, 1, 12], []), none, none, some (.bipush (44), [], [(44, 0)]), none, some (.if_icmp .eq (5), [59], []), none, none, some (.iconst (0), [], [(0, 0)]), some (.ireturn, [], []), some (.aload_n 0, [], []), some (.dup, [], []), some (.getfield 260, [12, 36, 0], []), none, none], [some (.iconst (1), [], [(1, 0)]), some (.iadd, [], []), some (.putfield 260, [12, 36, 0], []), none, none, some (.aload_n 0, [], []), some (.invokevirtual 272, [188, 0, 1, 12], []), none, none, some (.istore_n 3, [], []), some (.iload_n 3, [], []), some (.ifCond .ge (5), [80], []), none, none, some (.iconst (0), [], [(0, 0)]), some (.ireturn, [], [])], [some (.iload_n 2, [], []), some (.ifCond .ne (13), [94], []), none, none, some (.aload_n 0, [], []), some (.getfield 91, [12, 32, 1], []), none, none, some (.aload_n 0, [], []), some (.getfield 269, [12, 37, 0], []), none, none, some (.iload_n 3, [], []), some (.iastore, [], []), some (.iload_n 2, [], []), some (.iconst (1), [], [(1, 0)])], [some (.if_icmp .ne (13), [109], []), none, none, some (.aload_n 0, [], []), some (.getfield 94, [12, 33, 1], []), none, none, some (.aload_n 0, [], []), some (.getfield 269, [12, 37, 0], []), none, none, some (.iload_n 3, [], []), some (.iastore, [], []), some (.iload_n 2, [], []), some (.iconst (2), [], [(2, 0)]), some (.if_icmp .ne (13), [124], [])], [none, none, some (.aload_n 0, [], []), some (.getfield 97, [12, 34, 1], []), none, none, some (.aload_n 0, [], []), some (.getfield 269, [12, 37, 0], []), none, none, some (.iload_n 3, [], []), some (.iastore, [], []), some (.iinc 2 (1), [], [(1, 0)]), none, none, some (.goto (-88), [39], [])], [none, none, some (.aload_n 0, [], []), some (.dup, [], []), some (.getfield 269, [12, 37, 0], []), none, none, some (.iconst (1), [], [(1, 0)]), some (.iadd, [], []), some (.putfield 269, [12, 37, 0], []), none, none, some (.iconst (1), [], [(1, 0)]), some (.ireturn, [], [])]], 2, 4, [(39, [0, 1, 2]), (69, [0, 1, 2]), (109, [0, 1, 2, 3])])
-- WhirlShaftsModel.readsAll()Z
def e_190 : q_E := ([[some (.aload_n 0, [], []), some (.iconst (0), [], [(0, 0)]), some (.putfield 260, [12, 36, 0], []), none, none, some (.aload_n 0, [], []), some (.iconst (0), [], [(0, 0)]), some (.putfield 269, [12, 37, 0], []), none, none, some (.aload_n 0, [], []), some (.invokevirtual 275, [189, 0, 1, 12], []), none, none, some (.istore_n 1, [], []), some (.iload_n 1, [], [])], [some (.ifCond .eq (30), [46], []), none, none, some (.aload_n 0, [], []), some (.invokevirtual 263, [186, 0, 1, 12], []), none, none, some (.bipush (59), [], [(59, 0)]), none, some (.if_icmp .ne (21), [46], []), none, none, some (.aload_n 0, [], []), some (.dup, [], []), some (.getfield 260, [12, 36, 0], []), none], [none, some (.iconst (1), [], [(1, 0)]), some (.iadd, [], []), some (.putfield 260, [12, 36, 0], []), none, none, some (.aload_n 0, [], []), some (.invokevirtual 275, [189, 0, 1, 12], []), none, none, some (.istore_n 1, [], []), some (.goto (-28), [15], []), none, none, some (.iload_n 1, [], []), some (.ifCond .eq (18), [65], [])], [none, none, some (.aload_n 0, [], []), some (.getfield 260, [12, 36, 0], []), none, none, some (.aload_n 0, [], []), some (.getfield 257, [12, 35, 0], []), none, none, some (.if_icmp .ne (7), [65], []), none, none, some (.iconst (1), [], [(1, 0)]), some (.goto (4), [66], []), none], [none, some (.iconst (0), [], [(0, 0)]), some (.ireturn, [], [])]], 2, 2, [(15, [0, 1]), (46, [0, 1])])
-- WhirlShaftsModel.done(I)I
def e_191 : q_E := ([[some (.aload_n 0, [], []), some (.getfield 88, [12, 31, 1], []), none, none, some (.iload_n 1, [], []), some (.iaload, [], []), some (.tableswitch (223) (98) (119) #[161, 223, 102, 223, 223, 179, 223, 125, 223, 143, 223, 223, 197, 223, 223, 223, 223, 223, 223, 223, 223, 210], [229], [(98, 167), (99, 229), (100, 108), (101, 229), (102, 229), (103, 185), (104, 229), (105, 131), (106, 229), (107, 149), (108, 229), (109, 229), (110, 203), (111, 229), (112, 229), (113, 229), (114, 229), (115, 229), (116, 229), (117, 229), (118, 229), (119, 216)]), none, none, none, none, none, none, none, none, none], [none, none, none, none, none, none, none, none, none, none, none, none, none, none, none, none], [none, none, none, none, none, none, none, none, none, none, none, none, none, none, none, none], [none, none, none, none, none, none, none, none, none, none, none, none, none, none, none, none], [none, none, none, none, none, none, none, none, none, none, none, none, none, none, none, none], [none, none, none, none, none, none, none, none, none, none, none, none, none, none, none, none], [none, none, none, none, none, none, none, none, none, none, none, none, some (.aload_n 0, [], []), some (.aload_n 0, [], []), some (.getfield 91, [12, 32, 1], []), none], [none, some (.iload_n 1, [], []), some (.iaload, [], []), some (.aload_n 0, [], []), some (.getfield 94, [12, 33, 1], []), none, none, some (.iload_n 1, [], []), some (.iaload, [], []), some (.aload_n 0, [], []), some (.getfield 97, [12, 34, 1], []), none, none, some (.iload_n 1, [], []), some (.iaload, [], []), some (.invokevirtual 279, [135, 3, 1, 12], [])], [none, none, some (.ireturn, [], []), some (.aload_n 0, [], []), some (.iconst (0), [], [(0, 0)]), some (.aload_n 0, [], []), some (.getfield 91, [12, 32, 1], []), none, none, some (.iload_n 1, [], []), some (.iaload, [], []), some (.aload_n 0, [], []), some (.getfield 94, [12, 33, 1], []), none, none, some (.iload_n 1, [], [])], [some (.iaload, [], []), some (.invokevirtual 254, [145, 3, 1, 12], []), none, none, some (.ireturn, [], []), some (.aload_n 0, [], []), some (.iconst (1), [], [(1, 0)]), some (.aload_n 0, [], []), some (.getfield 91, [12, 32, 1], []), none, none, some (.iload_n 1, [], []), some (.iaload, [], []), some (.aload_n 0, [], []), some (.getfield 94, [12, 33, 1], []), none], [none, some (.iload_n 1, [], []), some (.iaload, [], []), some (.invokevirtual 254, [145, 3, 1, 12], []), none, none, some (.ireturn, [], []), some (.aload_n 0, [], []), some (.iconst (2), [], [(2, 0)]), some (.aload_n 0, [], []), some (.getfield 91, [12, 32, 1], []), none, none, some (.iload_n 1, [], []), some (.iaload, [], []), some (.aload_n 0, [], [])], [some (.getfield 94, [12, 33, 1], []), none, none, some (.iload_n 1, [], []), some (.iaload, [], []), some (.invokevirtual 254, [145, 3, 1, 12], []), none, none, some (.ireturn, [], []), some (.aload_n 0, [], []), some (.iconst (3), [], [(3, 0)]), some (.aload_n 0, [], []), some (.getfield 91, [12, 32, 1], []), none, none, some (.iload_n 1, [], [])], [some (.iaload, [], []), some (.aload_n 0, [], []), some (.getfield 94, [12, 33, 1], []), none, none, some (.iload_n 1, [], []), some (.iaload, [], []), some (.invokevirtual 254, [145, 3, 1, 12], []), none, none, some (.ireturn, [], []), some (.aload_n 0, [], []), some (.iconst (4), [], [(4, 0)]), some (.iconst (0), [], [(0, 0)]), some (.aload_n 0, [], []), some (.getfield 91, [12, 32, 1], [])], [none, none, some (.iload_n 1, [], []), some (.iaload, [], []), some (.invokevirtual 254, [145, 3, 1, 12], []), none, none, some (.ireturn, [], []), some (.aload_n 0, [], []), some (.iconst (5), [], [(5, 0)]), some (.iconst (0), [], [(0, 0)]), some (.aload_n 0, [], []), some (.getfield 91, [12, 32, 1], []), none, none, some (.iload_n 1, [], [])], [some (.iaload, [], []), some (.invokevirtual 254, [145, 3, 1, 12], []), none, none, some (.ireturn, [], []), some (.aload_n 0, [], []), some (.invokevirtual 282, [136, 0, 1, 12], []), none, none, some (.ireturn, [], [])]], 1, 2, [])
-- WhirlShaftsModel.read()I
def e_192 : q_E := ([[some (.aload_n 0, [], []), some (.invokevirtual 285, [190, 0, 1, 12], []), none, none, some (.istore_n 1, [], []), some (.aload_n 0, [], []), some (.iconst (0), [], [(0, 0)]), some (.putfield 257, [12, 35, 0], []), none, none, some (.iload_n 1, [], []), some (.ifCond .ne (11), [22], []), none, none, some (.bipush (-100), [], [(-100, 0)]), none], [some (.aload_n 0, [], []), some (.getfield 260, [12, 36, 0], []), none, none, some (.isub, [], []), some (.ireturn, [], []), some (.iconst (0), [], [(0, 0)]), some (.istore_n 2, [], []), some (.iload_n 2, [], []), some (.aload_n 0, [], []), some (.getfield 269, [12, 37, 0], []), none, none, some (.if_icmp .ge (23), [52], []), none, none], [some (.aload_n 0, [], []), some (.iload_n 2, [], []), some (.invokevirtual 288, [191, 1, 1, 12], []), none, none, some (.ifCond .ge (9), [46], []), none, none, some (.sipush (-200), [], [(-200, 0)]), none, none, some (.iload_n 2, [], []), some (.isub, [], []), some (.ireturn, [], []), some (.iinc 2 (1), [], [(1, 0)]), none], [none, some (.goto (-25), [24], []), none, none, some (.aload_n 0, [], []), some (.getfield 269, [12, 37, 0], []), none, none, some (.ireturn, [], [])]], 1, 3, [(24, [0, 2])])
-- WhirlShaftsModel.note(I)V
def e_193 : q_E := ([[some (.aload_n 0, [], []), some (.getfield 291, [12, 39, 0], []), none, none, some (.bipush (24), [], [(24, 0)]), none, some (.if_icmp .ge (13), [19], []), none, none, some (.aload_n 0, [], []), some (.getfield 100, [12, 38, 1], []), none, none, some (.aload_n 0, [], []), some (.getfield 291, [12, 39, 0], []), none], [none, some (.iload_n 1, [], []), some (.iastore, [], []), some (.aload_n 0, [], []), some (.dup, [], []), some (.getfield 291, [12, 39, 0], []), none, none, some (.iconst (1), [], [(1, 0)]), some (.iadd, [], []), some (.putfield 291, [12, 39, 0], []), none, none, some (.return_, [], [])]], 0, 2, [])
-- WhirlShaftsModel.spins(II)I
def e_194 : q_E := ([[some (.aload_n 0, [], []), some (.getfield 9, [12, 3, 1], []), none, none, some (.iload_n 1, [], []), some (.iaload, [], []), some (.iconst (2), [], [(2, 0)]), some (.if_icmp .eq (13), [20], []), none, none, some (.aload_n 0, [], []), some (.getfield 9, [12, 3, 1], []), none, none, some (.iload_n 1, [], []), some (.iaload, [], [])], [some (.iconst (4), [], [(4, 0)]), some (.if_icmp .ne (7), [24], []), none, none, some (.iconst (1), [], [(1, 0)]), some (.goto (4), [25], []), none, none, some (.iconst (0), [], [(0, 0)]), some (.istore_n 3, [], []), some (.iload_n 3, [], []), some (.ifCond .eq (9), [36], []), none, none, some (.aload_n 0, [], []), some (.bipush (30), [], [(30, 0)])], [none, some (.invokevirtual 294, [193, 1, 0, 12], []), none, none, some (.aload_n 0, [], []), some (.getfield 9, [12, 3, 1], []), none, none, some (.iload_n 1, [], []), some (.iaload, [], []), some (.iconst (3), [], [(3, 0)]), some (.if_icmp .ne (9), [52], []), none, none, some (.aload_n 0, [], []), some (.bipush (41), [], [(41, 0)])], [none, some (.invokevirtual 294, [193, 1, 0, 12], []), none, none, some (.aload_n 0, [], []), some (.bipush (10), [], [(10, 0)]), none, some (.invokevirtual 294, [193, 1, 0, 12], []), none, none, some (.iload_n 2, [], []), some (.iload_n 1, [], []), some (.iadd, [], []), some (.istore 4, [], []), none, some (.iload_n 3, [], [])], [some (.ifCond .eq (9), [73], []), none, none, some (.iload 4, [], []), none, some (.ineg, [], []), some (.goto (22), [92], []), none, none, some (.aload_n 0, [], []), some (.getfield 9, [12, 3, 1], []), none, none, some (.iload_n 1, [], []), some (.iaload, [], []), some (.iconst (3), [], [(3, 0)])], [some (.if_icmp .ne (10), [90], []), none, none, some (.iload 4, [], []), none, some (.iconst (3), [], [(3, 0)]), some (.imul, [], []), some (.goto (5), [92], []), none, none, some (.iload 4, [], []), none, some (.ireturn, [], [])]], 1, 5, [(25, [0, 1, 2]), (52, [0, 1, 2, 3])])
-- WhirlShaftsModel.swings(II)I
def e_195 : q_E := ([[some (.aload_n 0, [], []), some (.getfield 9, [12, 3, 1], []), none, none, some (.iload_n 1, [], []), some (.iaload, [], []), some (.iconst (1), [], [(1, 0)]), some (.if_icmp .eq (13), [20], []), none, none, some (.aload_n 0, [], []), some (.getfield 9, [12, 3, 1], []), none, none, some (.iload_n 1, [], []), some (.iaload, [], [])], [some (.iconst (3), [], [(3, 0)]), some (.if_icmp .ne (7), [24], []), none, none, some (.iconst (1), [], [(1, 0)]), some (.goto (4), [25], []), none, none, some (.iconst (0), [], [(0, 0)]), some (.istore_n 3, [], []), some (.iload_n 3, [], []), some (.ifCond .eq (9), [36], []), none, none, some (.aload_n 0, [], []), some (.bipush (20), [], [(20, 0)])], [none, some (.invokevirtual 294, [193, 1, 0, 12], []), none, none, some (.aload_n 0, [], []), some (.getfield 9, [12, 3, 1], []), none, none, some (.iload_n 1, [], []), some (.iaload, [], []), some (.iconst (4), [], [(4, 0)]), some (.if_icmp .ne (9), [52], []), none, none, some (.aload_n 0, [], []), some (.bipush (50), [], [(50, 0)])], [none, some (.invokevirtual 294, [193, 1, 0, 12], []), none, none, some (.aload_n 0, [], []), some (.bipush (11), [], [(11, 0)]), none, some (.invokevirtual 294, [193, 1, 0, 12], []), none, none, some (.aload_n 0, [], []), some (.iload_n 1, [], []), some (.iload_n 2, [], []), some (.invokevirtual 297, [194, 2, 1, 12], []), none, none], [some (.iconst (2), [], [(2, 0)]), some (.imul, [], []), some (.istore 4, [], []), none, some (.iload_n 3, [], []), some (.ifCond .eq (10), [79], []), none, none, some (.iload 4, [], []), none, some (.iconst (3), [], [(3, 0)]), some (.ixor, [], []), some (.goto (27), [103], []), none, none, some (.aload_n 0, [], [])], [some (.getfield 9, [12, 3, 1], []), none, none, some (.iload_n 1, [], []), some (.iaload, [], []), some (.iconst (4), [], [(4, 0)]), some (.if_icmp .ne (15), [101], []), none, none, some (.iload 4, [], []), none, some (.aload_n 0, [], []), some (.iload_n 1, [], []), some (.iconst (2), [], [(2, 0)]), some (.invokevirtual 297, [194, 2, 1, 12], []), none], [none, some (.iadd, [], []), some (.goto (5), [103], []), none, none, some (.iload 4, [], []), none, some (.ireturn, [], [])]], 1, 5, [(25, [0, 1, 2]), (52, [0, 1, 2, 3])])
-- WhirlShaftsModel.tells(II)I
def e_196 : q_E := ([[some (.aload_n 0, [], []), some (.getfield 9, [12, 3, 1], []), none, none, some (.iload_n 1, [], []), some (.iaload, [], []), some (.iconst (3), [], [(3, 0)]), some (.if_icmp .ne (9), [16], []), none, none, some (.aload_n 0, [], []), some (.bipush (40), [], [(40, 0)]), none, some (.invokevirtual 294, [193, 1, 0, 12], []), none, none], [some (.aload_n 0, [], []), some (.bipush (12), [], [(12, 0)]), none, some (.invokevirtual 294, [193, 1, 0, 12], []), none, none, some (.aload_n 0, [], []), some (.iload_n 1, [], []), some (.aload_n 0, [], []), some (.getfield 9, [12, 3, 1], []), none, none, some (.iload_n 1, [], []), some (.iaload, [], []), some (.iconst (3), [], [(3, 0)]), some (.if_icmp .ne (9), [40], [])], [none, none, some (.iload_n 2, [], []), some (.iconst (1), [], [(1, 0)]), some (.iadd, [], []), some (.goto (4), [41], []), none, none, some (.iload_n 2, [], []), some (.invokevirtual 300, [195, 2, 1, 12], []), none, none, some (.aload_n 0, [], []), some (.getfield 15, [12, 4, 1], []), none, none], [some (.iload_n 1, [], []), some (.iaload, [], []), some (.isub, [], []), some (.ireturn, [], [])]], 1, 3, [(16, [0, 1, 2])])
-- WhirlShaftsModel.act(III)I
def e_197 : q_E := ([[some (.aload_n 0, [], []), some (.iload_n 1, [], []), some (.invokevirtual 175, [121, 1, 1, 12], []), none, none, some (.ifCond .eq (12), [17], []), none, none, some (.iload_n 2, [], []), some (.iconst (0), [], [(0, 0)]), some (.iconst (2), [], [(2, 0)]), some (.invokestatic 122, [120, 3, 1], []), none, none, some (.ifCond .ne (5), [19], []), none], [none, some (.iconst (0), [], [(0, 0)]), some (.ireturn, [], []), some (.aload_n 0, [], []), some (.iconst (0), [], [(0, 0)]), some (.putfield 291, [12, 39, 0], []), none, none, some (.iload_n 2, [], []), some (.ifCond .ne (12), [37], []), none, none, some (.aload_n 0, [], []), some (.iload_n 1, [], []), some (.iload_n 3, [], []), some (.invokevirtual 297, [194, 2, 1, 12], [])], [none, none, some (.goto (23), [57], []), none, none, some (.iload_n 2, [], []), some (.iconst (1), [], [(1, 0)]), some (.if_icmp .ne (12), [51], []), none, none, some (.aload_n 0, [], []), some (.iload_n 1, [], []), some (.iload_n 3, [], []), some (.invokevirtual 300, [195, 2, 1, 12], []), none, none], [some (.goto (9), [57], []), none, none, some (.aload_n 0, [], []), some (.iload_n 1, [], []), some (.iload_n 3, [], []), some (.invokevirtual 303, [196, 2, 1, 12], []), none, none, some (.ireturn, [], [])]], 1, 4, [])
-- WhirlShaftsModel.trace(I)I
def e_198 : q_E := ([[some (.iload_n 1, [], []), some (.ifCond .lt (26), [27], []), none, none, some (.iload_n 1, [], []), some (.bipush (24), [], [(24, 0)]), none, some (.if_icmp .ge (20), [27], []), none, none, some (.iload_n 1, [], []), some (.aload_n 0, [], []), some (.getfield 291, [12, 39, 0], []), none, none, some (.if_icmp .ge (12), [27], [])], [none, none, some (.aload_n 0, [], []), some (.getfield 100, [12, 38, 1], []), none, none, some (.iload_n 1, [], []), some (.iaload, [], []), some (.goto (5), [29], []), none, none, some (.bipush (-2), [], [(-2, 0)]), none, some (.ireturn, [], [])]], 1, 2, [])
-- WhirlShaftsModel.taken(II)I
def e_199 : q_E := ([[some (.aload_n 0, [], []), some (.iload_n 1, [], []), some (.invokevirtual 175, [121, 1, 1, 12], []), none, none, some (.ifCond .eq (12), [17], []), none, none, some (.iload_n 2, [], []), some (.iconst (0), [], [(0, 0)]), some (.iconst (4), [], [(4, 0)]), some (.invokestatic 122, [120, 3, 1], []), none, none, some (.ifCond .ne (5), [19], []), none], [none, some (.iconst (-1), [], [(-1, 0)]), some (.ireturn, [], []), some (.iload_n 2, [], []), some (.ifCond .eq (43), [63], []), none, none, some (.aload_n 0, [], []), some (.getfield 9, [12, 3, 1], []), none, none, some (.iload_n 1, [], []), some (.iaload, [], []), some (.iload_n 2, [], []), some (.if_icmp .eq (33), [63], []), none], [none, some (.iload_n 2, [], []), some (.iconst (1), [], [(1, 0)]), some (.if_icmp .ne (13), [48], []), none, none, some (.aload_n 0, [], []), some (.getfield 9, [12, 3, 1], []), none, none, some (.iload_n 1, [], []), some (.iaload, [], []), some (.iconst (3), [], [(3, 0)]), some (.if_icmp .eq (18), [63], []), none, none], [some (.iload_n 2, [], []), some (.iconst (2), [], [(2, 0)]), some (.if_icmp .ne (17), [67], []), none, none, some (.aload_n 0, [], []), some (.getfield 9, [12, 3, 1], []), none, none, some (.iload_n 1, [], []), some (.iaload, [], []), some (.iconst (4), [], [(4, 0)]), some (.if_icmp .ne (7), [67], []), none, none, some (.iconst (1), [], [(1, 0)])], [some (.goto (4), [68], []), none, none, some (.iconst (0), [], [(0, 0)]), some (.istore_n 3, [], []), some (.iload_n 3, [], []), some (.ifCond .eq (12), [82], []), none, none, some (.aload_n 0, [], []), some (.getfield 15, [12, 4, 1], []), none, none, some (.iload_n 1, [], []), some (.iaload, [], []), some (.goto (5), [84], [])], [none, none, some (.bipush (-5), [], [(-5, 0)]), none, some (.ireturn, [], [])]], 1, 4, [(63, [0, 1]), (67, [0, 1])])
-- WhirlShaftsModel.passOne(I)I
def e_200 : q_E := ([[some (.aload_n 0, [], []), some (.getfield 306, [12, 46, 0], []), none, none, some (.ifCond .eq (7), [11], []), none, none, some (.iload_n 1, [], []), some (.goto (12), [20], []), none, none, some (.aload_n 0, [], []), some (.getfield 103, [12, 40, 1], []), none, none, some (.aload_n 0, [], [])], [some (.getfield 310, [12, 44, 0], []), none, none, some (.iaload, [], []), some (.istore_n 2, [], []), some (.aload_n 0, [], []), some (.getfield 103, [12, 40, 1], []), none, none, some (.aload_n 0, [], []), some (.getfield 310, [12, 44, 0], []), none, none, some (.iload_n 2, [], []), some (.iastore, [], []), some (.aload_n 0, [], [])], [some (.dup, [], []), some (.getfield 310, [12, 44, 0], []), none, none, some (.iconst (1), [], [(1, 0)]), some (.iadd, [], []), some (.putfield 310, [12, 44, 0], []), none, none, some (.iload_n 2, [], []), some (.ireturn, [], [])]], 1, 3, [(20, [0])])
-- WhirlShaftsModel.passes([I)V
def e_201 : q_E := ([[some (.iconst (0), [], [(0, 0)]), some (.istore_n 2, [], []), some (.iload_n 2, [], []), some (.bipush (8), [], [(8, 0)]), none, some (.if_icmp .ge (19), [24], []), none, none, some (.aload_n 1, [], []), some (.iload_n 2, [], []), some (.aload_n 0, [], []), some (.aload_n 1, [], []), some (.iload_n 2, [], []), some (.iaload, [], []), some (.invokevirtual 313, [200, 1, 1, 12], []), none], [none, some (.iastore, [], []), some (.iinc 2 (1), [], [(1, 0)]), none, none, some (.goto (-19), [2], []), none, none, some (.return_, [], [])]], 0, 3, [(2, [0, 1, 2])])
-- WhirlShaftsModel.passesAll(IZ)V
def e_202 : q_E := ([[some (.aload_n 0, [], []), some (.bipush (70), [], [(70, 0)]), none, some (.iload_n 1, [], []), some (.imul, [], []), some (.putfield 310, [12, 44, 0], []), none, none, some (.aload_n 0, [], []), some (.iload_n 2, [], []), some (.putfield 306, [12, 46, 4], []), none, none, some (.aload_n 0, [], []), some (.aload_n 0, [], []), some (.aload_n 0, [], [])], [some (.getfield 119, [12, 0, 0], []), none, none, some (.invokevirtual 313, [200, 1, 1, 12], []), none, none, some (.putfield 119, [12, 0, 0], []), none, none, some (.aload_n 0, [], []), some (.aload_n 0, [], []), some (.aload_n 0, [], []), some (.getfield 130, [12, 1, 0], []), none, none, some (.invokevirtual 313, [200, 1, 1, 12], [])], [none, none, some (.putfield 130, [12, 1, 0], []), none, none, some (.aload_n 0, [], []), some (.aload_n 0, [], []), some (.aload_n 0, [], []), some (.getfield 137, [12, 2, 0], []), none, none, some (.invokevirtual 313, [200, 1, 1, 12], []), none, none, some (.putfield 137, [12, 2, 0], []), none], [none, some (.aload_n 0, [], []), some (.aload_n 0, [], []), some (.aload_n 0, [], []), some (.getfield 247, [12, 26, 0], []), none, none, some (.invokevirtual 313, [200, 1, 1, 12], []), none, none, some (.putfield 247, [12, 26, 0], []), none, none, some (.aload_n 0, [], []), some (.aload_n 0, [], []), some (.getfield 9, [12, 3, 1], [])], [none, none, some (.invokevirtual 316, [201, 1, 0, 12], []), none, none, some (.aload_n 0, [], []), some (.aload_n 0, [], []), some (.getfield 15, [12, 4, 1], []), none, none, some (.invokevirtual 316, [201, 1, 0, 12], []), none, none, some (.aload_n 0, [], []), some (.aload_n 0, [], []), some (.getfield 18, [12, 5, 1], [])], [none, none, some (.invokevirtual 316, [201, 1, 0, 12], []), none, none, some (.aload_n 0, [], []), some (.aload_n 0, [], []), some (.getfield 21, [12, 6, 1], []), none, none, some (.invokevirtual 316, [201, 1, 0, 12], []), none, none, some (.aload_n 0, [], []), some (.aload_n 0, [], []), some (.getfield 24, [12, 7, 1], [])], [none, none, some (.invokevirtual 316, [201, 1, 0, 12], []), none, none, some (.aload_n 0, [], []), some (.aload_n 0, [], []), some (.getfield 76, [12, 27, 1], []), none, none, some (.invokevirtual 316, [201, 1, 0, 12], []), none, none, some (.aload_n 0, [], []), some (.aload_n 0, [], []), some (.getfield 79, [12, 28, 1], [])], [none, none, some (.invokevirtual 316, [201, 1, 0, 12], []), none, none, some (.aload_n 0, [], []), some (.aload_n 0, [], []), some (.getfield 82, [12, 29, 1], []), none, none, some (.invokevirtual 316, [201, 1, 0, 12], []), none, none, some (.return_, [], [])]], 0, 3, [])
-- WhirlShaftsModel.image()I
def e_203 : q_E := ([[some (.aload_n 0, [], []), some (.iconst (1), [], [(1, 0)]), some (.iconst (1), [], [(1, 0)]), some (.invokevirtual 250, [202, 2, 0, 12], []), none, none, some (.aload_n 0, [], []), some (.invokevirtual 155, [126, 0, 0, 12], []), none, none, some (.aload_n 0, [], []), some (.aload_n 0, [], []), some (.getfield 119, [12, 0, 0], []), none, none, some (.putfield 115, [12, 45, 0], [])], [none, none, some (.iconst (0), [], [(0, 0)]), some (.istore_n 1, [], []), some (.iload_n 1, [], []), some (.aload_n 0, [], []), some (.getfield 119, [12, 0, 0], []), none, none, some (.if_icmp .ge (45), [70], []), none, none, some (.aload_n 0, [], []), some (.getfield 106, [12, 41, 1], []), none, none], [some (.iload_n 1, [], []), some (.aload_n 0, [], []), some (.getfield 30, [12, 9, 1], []), none, none, some (.iload_n 1, [], []), some (.iaload, [], []), some (.iastore, [], []), some (.aload_n 0, [], []), some (.getfield 109, [12, 42, 1], []), none, none, some (.iload_n 1, [], []), some (.aload_n 0, [], []), some (.getfield 33, [12, 10, 1], []), none], [none, some (.iload_n 1, [], []), some (.iaload, [], []), some (.iastore, [], []), some (.aload_n 0, [], []), some (.getfield 112, [12, 43, 1], []), none, none, some (.iload_n 1, [], []), some (.aload_n 0, [], []), some (.getfield 36, [12, 11, 1], []), none, none, some (.iload_n 1, [], []), some (.iaload, [], []), some (.iastore, [], [])], [some (.iinc 1 (1), [], [(1, 0)]), none, none, some (.goto (-47), [20], []), none, none, some (.aload_n 0, [], []), some (.getfield 119, [12, 0, 0], []), none, none, some (.ireturn, [], [])]], 1, 2, [(20, [0, 1])])
-- WhirlShaftsModel.alike()I
def e_204 : q_E := ([[some (.aload_n 0, [], []), some (.getfield 115, [12, 45, 0], []), none, none, some (.ifCond .ge (6), [10], []), none, none, some (.bipush (-5), [], [(-5, 0)]), none, some (.ireturn, [], []), some (.aload_n 0, [], []), some (.invokevirtual 155, [126, 0, 0, 12], []), none, none, some (.aload_n 0, [], []), some (.getfield 115, [12, 45, 0], [])], [none, none, some (.aload_n 0, [], []), some (.getfield 119, [12, 0, 0], []), none, none, some (.if_icmp .ne (7), [29], []), none, none, some (.iconst (1), [], [(1, 0)]), some (.goto (4), [30], []), none, none, some (.iconst (0), [], [(0, 0)]), some (.istore_n 1, [], []), some (.iconst (0), [], [(0, 0)])], [some (.istore_n 2, [], []), some (.iload_n 2, [], []), some (.aload_n 0, [], []), some (.getfield 119, [12, 0, 0], []), none, none, some (.if_icmp .ge (64), [102], []), none, none, some (.iload_n 1, [], []), some (.ifCond .eq (60), [102], []), none, none, some (.aload_n 0, [], []), some (.getfield 106, [12, 41, 1], []), none], [none, some (.iload_n 2, [], []), some (.iaload, [], []), some (.aload_n 0, [], []), some (.getfield 30, [12, 9, 1], []), none, none, some (.iload_n 2, [], []), some (.iaload, [], []), some (.if_icmp .ne (37), [94], []), none, none, some (.aload_n 0, [], []), some (.getfield 109, [12, 42, 1], []), none, none], [some (.iload_n 2, [], []), some (.iaload, [], []), some (.aload_n 0, [], []), some (.getfield 33, [12, 10, 1], []), none, none, some (.iload_n 2, [], []), some (.iaload, [], []), some (.if_icmp .ne (22), [94], []), none, none, some (.aload_n 0, [], []), some (.getfield 112, [12, 43, 1], []), none, none, some (.iload_n 2, [], [])], [some (.iaload, [], []), some (.aload_n 0, [], []), some (.getfield 36, [12, 11, 1], []), none, none, some (.iload_n 2, [], []), some (.iaload, [], []), some (.if_icmp .ne (7), [94], []), none, none, some (.iconst (1), [], [(1, 0)]), some (.goto (4), [95], []), none, none, some (.iconst (0), [], [(0, 0)]), some (.istore_n 1, [], [])], [some (.iinc 2 (1), [], [(1, 0)]), none, none, some (.goto (-66), [33], []), none, none, some (.iload_n 1, [], []), some (.ifCond .eq (7), [110], []), none, none, some (.iconst (1), [], [(1, 0)]), some (.goto (4), [111], []), none, none, some (.iconst (0), [], [(0, 0)]), some (.ireturn, [], [])]], 1, 3, [(33, [0, 1, 2])])
-- WhirlShaftsModel.back()I
def e_205 : q_E := ([[some (.aload_n 0, [], []), some (.getfield 115, [12, 45, 0], []), none, none, some (.ifCond .ge (6), [10], []), none, none, some (.bipush (-5), [], [(-5, 0)]), none, some (.ireturn, [], []), some (.aload_n 0, [], []), some (.iconst (1), [], [(1, 0)]), some (.iconst (0), [], [(0, 0)]), some (.invokevirtual 250, [202, 2, 0, 12], []), none, none], [some (.aload_n 0, [], []), some (.invokevirtual 172, [134, 0, 0, 12], []), none, none, some (.aload_n 0, [], []), some (.getfield 119, [12, 0, 0], []), none, none, some (.ireturn, [], [])]], 1, 1, [])
-- WhirlShaftsModel.rowsThere()I
def e_206 : q_E := ([[some (.iconst (0), [], [(0, 0)]), some (.istore_n 1, [], []), some (.iconst (0), [], [(0, 0)]), some (.istore_n 2, [], []), some (.iload_n 2, [], []), some (.iconst (3), [], [(3, 0)]), some (.if_icmp .ge (26), [32], []), none, none, some (.iload_n 1, [], []), some (.aload_n 0, [], []), some (.getfield 64, [12, 22, 1], []), none, none, some (.iload_n 2, [], []), some (.iaload, [], [])], [some (.ifCond .lt (7), [23], []), none, none, some (.iconst (1), [], [(1, 0)]), some (.goto (4), [24], []), none, none, some (.iconst (0), [], [(0, 0)]), some (.iadd, [], []), some (.istore_n 1, [], []), some (.iinc 2 (1), [], [(1, 0)]), none, none, some (.goto (-25), [4], []), none, none], [some (.iload_n 1, [], []), some (.ireturn, [], [])]], 1, 3, [(4, [0, 1, 2])])
-- WhirlShaftsModel.count(I)I
def e_207 : q_E := ([[some (.iload_n 1, [], []), some (.tableswitch (96) (0) (8) #[51, 56, 61, 66, 71, 76, 81, 86, 91], [97], [(0, 52), (1, 57), (2, 62), (3, 67), (4, 72), (5, 77), (6, 82), (7, 87), (8, 92)]), none, none, none, none, none, none, none, none, none, none, none, none, none, none], [none, none, none, none, none, none, none, none, none, none, none, none, none, none, none, none], [none, none, none, none, none, none, none, none, none, none, none, none, none, none, none, none], [none, none, none, none, some (.aload_n 0, [], []), some (.getfield 119, [12, 0, 0], []), none, none, some (.ireturn, [], []), some (.aload_n 0, [], []), some (.getfield 130, [12, 1, 0], []), none, none, some (.ireturn, [], []), some (.aload_n 0, [], []), some (.getfield 137, [12, 2, 0], [])], [none, none, some (.ireturn, [], []), some (.aload_n 0, [], []), some (.invokevirtual 191, [127, 0, 1, 12], []), none, none, some (.ireturn, [], []), some (.aload_n 0, [], []), some (.getfield 247, [12, 26, 0], []), none, none, some (.ireturn, [], []), some (.aload_n 0, [], []), some (.getfield 166, [12, 20, 0], []), none], [none, some (.ireturn, [], []), some (.aload_n 0, [], []), some (.getfield 169, [12, 21, 0], []), none, none, some (.ireturn, [], []), some (.aload_n 0, [], []), some (.getfield 257, [12, 35, 0], []), none, none, some (.ireturn, [], []), some (.aload_n 0, [], []), some (.invokevirtual 320, [206, 0, 1, 12], []), none, none], [some (.ireturn, [], []), some (.iconst (-1), [], [(-1, 0)]), some (.ireturn, [], [])]], 1, 2, [])
-- java/lang/Math.max(II)I
def e_208 : q_E := ([[some (.iload_n 0, [], []), some (.iload_n 1, [], []), some (.if_icmp .lt (7), [9], []), none, none, some (.iload_n 0, [], []), some (.goto (4), [10], []), none, none, some (.iload_n 1, [], []), some (.ireturn, [], [])]], 1, 2, [])
-- java/lang/Math.floorMod(JJ)J
def e_209 : q_E := ([[some (.lload_n 0, [], []), some (.lload_n 2, [], []), some (.lrem, [], []), some (.lstore 4, [], []), none, some (.lload_n 0, [], []), some (.lload_n 2, [], []), some (.lxor, [], []), some (.lconst 0, [], []), some (.lcmp, [], []), some (.ifCond .ge (15), [25], []), none, none, some (.lload 4, [], []), none, some (.lconst 0, [], [])], [some (.lcmp, [], []), some (.ifCond .eq (8), [25], []), none, none, some (.lload 4, [], []), none, some (.lload_n 2, [], []), some (.ladd, [], []), some (.lreturn, [], []), some (.lload 4, [], []), none, some (.lreturn, [], [])]], 3, 6, [])
-- java/lang/Math.max(JJ)J
def e_210 : q_E := ([[some (.lload_n 0, [], []), some (.lload_n 2, [], []), some (.lcmp, [], []), some (.ifCond .lt (7), [10], []), none, none, some (.lload_n 0, [], []), some (.goto (4), [11], []), none, none, some (.lload_n 2, [], []), some (.lreturn, [], [])]], 3, 4, [])
end
section
-- WhirlShafts$Changes.forget()V with (38,)
set_option maxRecDepth 20000 in
theorem b0_0 (X : q_X) (O : q_O) (n : Nat) (h : q_S)  : q_go e_0 X O (n + 1) 0 [(0, .ref 38)] [] h =
  some ((q_si (q_si h 38 4 0) 38 5 0), none) := by rfl
-- WhirlShafts$Changes.add(IIII)V with (38, None, None, None, None)
set_option maxRecDepth 20000 in
theorem b1_0 (X : q_X) (O : q_O) (n : Nat) (h : q_S) (x1 : Int32) (x2 : Int32) (x3 : Int32) (x4 : Int32) : q_go e_1 X O (n + 1) 0 [(0, .ref 38), (1, .int x1), (2, .int x2), (3, .int x3), (4, .int x4)] [] h =
  if (h.1 38 4) < 12 then
    q_go e_1 X O n 18 [(0, .ref 38), (1, .int x1), (2, .int x2), (3, .int x3), (4, .int x4)] [] (q_si h 38 5 0)
  else
    q_c0 (O 2 (q_si h 38 5 0) [.ref 38]) (fun h1 =>
    q_go e_1 X O n 18 [(0, .ref 38), (1, .int x1), (2, .int x2), (3, .int x3), (4, .int x4)] [] h1) := by rfl
set_option maxRecDepth 20000 in
theorem b1_18 (X : q_X) (O : q_O) (n : Nat) (h : q_S) (x1 : Int32) (x2 : Int32) (x3 : Int32) (x4 : Int32) : q_go e_1 X O (n + 1) 18 [(0, .ref 38), (1, .int x1), (2, .int x2), (3, .int x3), (4, .int x4)] [] h =
  q_ix (h.1 38 4) 12 (fun j1 =>
  q_ix (h.1 38 4) 12 (fun j2 =>
  q_ix (h.1 38 4) 12 (fun j3 =>
  q_ix (h.1 38 4) 12 (fun j4 =>
  some ((q_si (q_si (q_si (q_si (q_si h 39 j1 x1) 40 j2 x2) 41 j3 x3) 42 j4 x4) 38 4 ((h.1 38 4) + 1)), none))))) := by rfl
-- WhirlShafts$Changes.forgetEldest()V with (38,)
set_option maxRecDepth 20000 in
theorem b2_0 (X : q_X) (O : q_O) (n : Nat) (h : q_S)  : q_go e_2 X O (n + 1) 0 [(0, .ref 38)] [] h =
  q_arc (q_si h 38 4 11) 39 1 39 0 11 (fun h1 =>
  q_arc h1 40 1 40 0 (h1.1 38 4) (fun h2 =>
  q_arc h2 41 1 41 0 (h2.1 38 4) (fun h3 =>
  q_arc h3 42 1 42 0 (h3.1 38 4) (fun h4 =>
  some (h4, none))))) := by rfl
-- WhirlShafts$Changes.stepBack(LWhirlShafts$Line;)I with (38, 12)
set_option maxRecDepth 20000 in
theorem b3_0 (X : q_X) (O : q_O) (n : Nat) (h : q_S)  : q_go e_3 X O (n + 1) 0 [(0, .ref 38), (1, .ref 12)] [] h =
  q_ix ((h.1 38 4) - 1) 12 (fun j1 =>
  q_ix ((h.1 38 4) - 1) 12 (fun j2 =>
  q_ix ((h.1 38 4) - 1) 12 (fun j3 =>
  q_c0 (O 24 (q_si (q_si h 38 4 ((h.1 38 4) - 1)) 38 5 ((h.1 38 5) + 1)) [.ref 12, .int (h.1 39 j1), .int (h.1 40 j2), .int (h.1 41 j3)]) (fun h4 =>
  some (h4, some (.int (h4.1 38 4))))))) := by rfl
-- WhirlShafts$Changes.stepOn(LWhirlShafts$Line;)I with (38, 12)
set_option maxRecDepth 20000 in
theorem b4_0 (X : q_X) (O : q_O) (n : Nat) (h : q_S)  : q_go e_4 X O (n + 1) 0 [(0, .ref 38), (1, .ref 12)] [] h =
  q_ix (h.1 38 4) 12 (fun j1 =>
  q_ix (h.1 38 4) 12 (fun j2 =>
  q_ix (h.1 38 4) 12 (fun j3 =>
  q_c0 (O 24 h [.ref 12, .int (h.1 39 j1), .int (h.1 40 j2), .int (h.1 42 j3)]) (fun h4 =>
  some ((q_si (q_si h4 38 4 ((h4.1 38 4) + 1)) 38 5 ((h4.1 38 5) - 1)), some (.int ((h4.1 38 5) - 1))))))) := by rfl
-- WhirlShafts$Crown.weighs(II)I with (5, None, None)
set_option maxRecDepth 20000 in
theorem b5_0 (X : q_X) (O : q_O) (n : Nat) (h : q_S) (x1 : Int32) (x2 : Int32) : q_go e_5 X O (n + 1) 0 [(0, .ref 5), (1, .int x1), (2, .int x2)] [] h =
  q_c1 (O 46 h [.ref 5, .int x1, .int x2]) (fun h1 v2 =>
  some (h1, some (.int (v2 + 3)))) := by rfl
-- WhirlShafts$Crown.tells(I)I with (5, None)
set_option maxRecDepth 20000 in
theorem b6_0 (X : q_X) (O : q_O) (n : Nat) (h : q_S) (x1 : Int32) : q_go e_6 X O (n + 1) 0 [(0, .ref 5), (1, .int x1)] [] h =
  q_c0 (O 9 h [.ref 5, .int 40]) (fun h1 =>
  q_c1 (O 13 h1 [.ref 5, .int (x1 + 1)]) (fun h2 v3 =>
  some (h2, some (.int v3)))) := by rfl
-- WhirlShafts$Crown.spins(I)I with (5, None)
set_option maxRecDepth 20000 in
theorem b7_0 (X : q_X) (O : q_O) (n : Nat) (h : q_S) (x1 : Int32) : q_go e_7 X O (n + 1) 0 [(0, .ref 5), (1, .int x1)] [] h =
  q_c0 (O 9 h [.ref 5, .int 41]) (fun h1 =>
  q_c1 (O 11 h1 [.ref 5, .int x1]) (fun h2 v3 =>
  some (h2, some (.int (v3 * 3))))) := by rfl
-- WhirlShafts$Disc.begin(II)V with (2, None, None)
set_option maxRecDepth 20000 in
theorem b8_0 (X : q_X) (O : q_O) (n : Nat) (h : q_S) (x1 : Int32) (x2 : Int32) : q_go e_8 X O (n + 1) 0 [(0, .ref 2), (1, .int x1), (2, .int x2)] [] h =
  some ((q_si (q_si (q_si h 2 1 0) 2 2 x1) 2 3 x2), none) := by rfl
-- WhirlShafts$Disc.begin(II)V with (3, None, None)
set_option maxRecDepth 20000 in
theorem b8_0_1 (X : q_X) (O : q_O) (n : Nat) (h : q_S) (x1 : Int32) (x2 : Int32) : q_go e_8 X O (n + 1) 0 [(0, .ref 3), (1, .int x1), (2, .int x2)] [] h =
  some ((q_si (q_si (q_si h 3 1 0) 3 2 x1) 3 3 x2), none) := by rfl
-- WhirlShafts$Disc.begin(II)V with (4, None, None)
set_option maxRecDepth 20000 in
theorem b8_0_2 (X : q_X) (O : q_O) (n : Nat) (h : q_S) (x1 : Int32) (x2 : Int32) : q_go e_8 X O (n + 1) 0 [(0, .ref 4), (1, .int x1), (2, .int x2)] [] h =
  some ((q_si (q_si (q_si h 4 1 0) 4 2 x1) 4 3 x2), none) := by rfl
-- WhirlShafts$Disc.begin(II)V with (5, None, None)
set_option maxRecDepth 20000 in
theorem b8_0_3 (X : q_X) (O : q_O) (n : Nat) (h : q_S) (x1 : Int32) (x2 : Int32) : q_go e_8 X O (n + 1) 0 [(0, .ref 5), (1, .int x1), (2, .int x2)] [] h =
  some ((q_si (q_si (q_si h 5 1 0) 5 2 x1) 5 3 x2), none) := by rfl
-- WhirlShafts$Disc.begin(II)V with (6, None, None)
set_option maxRecDepth 20000 in
theorem b8_0_4 (X : q_X) (O : q_O) (n : Nat) (h : q_S) (x1 : Int32) (x2 : Int32) : q_go e_8 X O (n + 1) 0 [(0, .ref 6), (1, .int x1), (2, .int x2)] [] h =
  some ((q_si (q_si (q_si h 6 1 0) 6 2 x1) 6 3 x2), none) := by rfl
-- WhirlShafts$Disc.note(I)V with (2, None)
set_option maxRecDepth 20000 in
theorem b9_0 (X : q_X) (O : q_O) (n : Nat) (h : q_S) (x1 : Int32) : q_go e_9 X O (n + 1) 0 [(0, .ref 2), (1, .int x1)] [] h =
  if (h.1 2 1) < 24 then
    q_ix (h.1 2 1) 24 (fun j1 =>
    some ((q_si (q_si h 7 j1 x1) 2 1 ((h.1 2 1) + 1)), none))
  else
    some (h, none) := by rfl
-- WhirlShafts$Disc.note(I)V with (3, None)
set_option maxRecDepth 20000 in
theorem b9_0_1 (X : q_X) (O : q_O) (n : Nat) (h : q_S) (x1 : Int32) : q_go e_9 X O (n + 1) 0 [(0, .ref 3), (1, .int x1)] [] h =
  if (h.1 3 1) < 24 then
    q_ix (h.1 3 1) 24 (fun j1 =>
    some ((q_si (q_si h 8 j1 x1) 3 1 ((h.1 3 1) + 1)), none))
  else
    some (h, none) := by rfl
-- WhirlShafts$Disc.note(I)V with (4, None)
set_option maxRecDepth 20000 in
theorem b9_0_2 (X : q_X) (O : q_O) (n : Nat) (h : q_S) (x1 : Int32) : q_go e_9 X O (n + 1) 0 [(0, .ref 4), (1, .int x1)] [] h =
  if (h.1 4 1) < 24 then
    q_ix (h.1 4 1) 24 (fun j1 =>
    some ((q_si (q_si h 9 j1 x1) 4 1 ((h.1 4 1) + 1)), none))
  else
    some (h, none) := by rfl
-- WhirlShafts$Disc.note(I)V with (5, None)
set_option maxRecDepth 20000 in
theorem b9_0_3 (X : q_X) (O : q_O) (n : Nat) (h : q_S) (x1 : Int32) : q_go e_9 X O (n + 1) 0 [(0, .ref 5), (1, .int x1)] [] h =
  if (h.1 5 1) < 24 then
    q_ix (h.1 5 1) 24 (fun j1 =>
    some ((q_si (q_si h 10 j1 x1) 5 1 ((h.1 5 1) + 1)), none))
  else
    some (h, none) := by rfl
-- WhirlShafts$Disc.note(I)V with (6, None)
set_option maxRecDepth 20000 in
theorem b9_0_4 (X : q_X) (O : q_O) (n : Nat) (h : q_S) (x1 : Int32) : q_go e_9 X O (n + 1) 0 [(0, .ref 6), (1, .int x1)] [] h =
  if (h.1 6 1) < 24 then
    q_ix (h.1 6 1) 24 (fun j1 =>
    some ((q_si (q_si h 11 j1 x1) 6 1 ((h.1 6 1) + 1)), none))
  else
    some (h, none) := by rfl
-- WhirlShafts$Disc.weighs(II)I with (2, None, None)
set_option maxRecDepth 20000 in
theorem b10_0 (X : q_X) (O : q_O) (n : Nat) (h : q_S) (x1 : Int32) (x2 : Int32) : q_go e_10 X O (n + 1) 0 [(0, .ref 2), (1, .int x1), (2, .int x2)] [] h =
  some (h, some (.int x1)) := by rfl
-- WhirlShafts$Disc.spins(I)I with (2, None)
set_option maxRecDepth 20000 in
theorem b11_0 (X : q_X) (O : q_O) (n : Nat) (h : q_S) (x1 : Int32) : q_go e_11 X O (n + 1) 0 [(0, .ref 2), (1, .int x1)] [] h =
  q_c0 (O 9 h [.ref 2, .int 10]) (fun h1 =>
  some (h1, some (.int (x1 + (h1.1 2 2))))) := by rfl
-- WhirlShafts$Disc.spins(I)I with (3, None)
set_option maxRecDepth 20000 in
theorem b11_0_1 (X : q_X) (O : q_O) (n : Nat) (h : q_S) (x1 : Int32) : q_go e_11 X O (n + 1) 0 [(0, .ref 3), (1, .int x1)] [] h =
  q_c0 (O 9 h [.ref 3, .int 10]) (fun h1 =>
  some (h1, some (.int (x1 + (h1.1 3 2))))) := by rfl
-- WhirlShafts$Disc.spins(I)I with (4, None)
set_option maxRecDepth 20000 in
theorem b11_0_2 (X : q_X) (O : q_O) (n : Nat) (h : q_S) (x1 : Int32) : q_go e_11 X O (n + 1) 0 [(0, .ref 4), (1, .int x1)] [] h =
  q_c0 (O 9 h [.ref 4, .int 10]) (fun h1 =>
  some (h1, some (.int (x1 + (h1.1 4 2))))) := by rfl
-- WhirlShafts$Disc.spins(I)I with (5, None)
set_option maxRecDepth 20000 in
theorem b11_0_3 (X : q_X) (O : q_O) (n : Nat) (h : q_S) (x1 : Int32) : q_go e_11 X O (n + 1) 0 [(0, .ref 5), (1, .int x1)] [] h =
  q_c0 (O 9 h [.ref 5, .int 10]) (fun h1 =>
  some (h1, some (.int (x1 + (h1.1 5 2))))) := by rfl
-- WhirlShafts$Disc.spins(I)I with (6, None)
set_option maxRecDepth 20000 in
theorem b11_0_4 (X : q_X) (O : q_O) (n : Nat) (h : q_S) (x1 : Int32) : q_go e_11 X O (n + 1) 0 [(0, .ref 6), (1, .int x1)] [] h =
  q_c0 (O 9 h [.ref 6, .int 10]) (fun h1 =>
  some (h1, some (.int (x1 + (h1.1 6 2))))) := by rfl
-- WhirlShafts$Disc.swings(I)I with (2, None)
set_option maxRecDepth 20000 in
theorem b12_0 (X : q_X) (O : q_O) (n : Nat) (h : q_S) (x1 : Int32) : q_go e_12 X O (n + 1) 0 [(0, .ref 2), (1, .int x1)] [] h =
  q_c0 (O 9 h [.ref 2, .int 11]) (fun h1 =>
  q_c1 (O 11 h1 [.ref 2, .int x1]) (fun h2 v3 =>
  some (h2, some (.int (v3 * 2))))) := by rfl
-- WhirlShafts$Disc.swings(I)I with (3, None)
set_option maxRecDepth 20000 in
theorem b12_0_1 (X : q_X) (O : q_O) (n : Nat) (h : q_S) (x1 : Int32) : q_go e_12 X O (n + 1) 0 [(0, .ref 3), (1, .int x1)] [] h =
  q_c0 (O 9 h [.ref 3, .int 11]) (fun h1 =>
  q_c1 (O 11 h1 [.ref 3, .int x1]) (fun h2 v3 =>
  some (h2, some (.int (v3 * 2))))) := by rfl
-- WhirlShafts$Disc.swings(I)I with (4, None)
set_option maxRecDepth 20000 in
theorem b12_0_2 (X : q_X) (O : q_O) (n : Nat) (h : q_S) (x1 : Int32) : q_go e_12 X O (n + 1) 0 [(0, .ref 4), (1, .int x1)] [] h =
  q_c0 (O 9 h [.ref 4, .int 11]) (fun h1 =>
  q_c1 (O 15 h1 [.ref 4, .int x1]) (fun h2 v3 =>
  some (h2, some (.int (v3 * 2))))) := by rfl
-- WhirlShafts$Disc.swings(I)I with (5, None)
set_option maxRecDepth 20000 in
theorem b12_0_3 (X : q_X) (O : q_O) (n : Nat) (h : q_S) (x1 : Int32) : q_go e_12 X O (n + 1) 0 [(0, .ref 5), (1, .int x1)] [] h =
  q_c0 (O 9 h [.ref 5, .int 11]) (fun h1 =>
  q_c1 (O 7 h1 [.ref 5, .int x1]) (fun h2 v3 =>
  some (h2, some (.int (v3 * 2))))) := by rfl
-- WhirlShafts$Disc.swings(I)I with (6, None)
set_option maxRecDepth 20000 in
theorem b12_0_4 (X : q_X) (O : q_O) (n : Nat) (h : q_S) (x1 : Int32) : q_go e_12 X O (n + 1) 0 [(0, .ref 6), (1, .int x1)] [] h =
  q_c0 (O 9 h [.ref 6, .int 11]) (fun h1 =>
  q_c1 (O 15 h1 [.ref 6, .int x1]) (fun h2 v3 =>
  some (h2, some (.int (v3 * 2))))) := by rfl
-- WhirlShafts$Disc.tells(I)I with (2, None)
set_option maxRecDepth 20000 in
theorem b13_0 (X : q_X) (O : q_O) (n : Nat) (h : q_S) (x1 : Int32) : q_go e_13 X O (n + 1) 0 [(0, .ref 2), (1, .int x1)] [] h =
  q_c0 (O 9 h [.ref 2, .int 12]) (fun h1 =>
  q_c1 (O 12 h1 [.ref 2, .int x1]) (fun h2 v3 =>
  some (h2, some (.int (v3 - (h2.1 2 3)))))) := by rfl
-- WhirlShafts$Disc.tells(I)I with (3, None)
set_option maxRecDepth 20000 in
theorem b13_0_1 (X : q_X) (O : q_O) (n : Nat) (h : q_S) (x1 : Int32) : q_go e_13 X O (n + 1) 0 [(0, .ref 3), (1, .int x1)] [] h =
  q_c0 (O 9 h [.ref 3, .int 12]) (fun h1 =>
  q_c1 (O 47 h1 [.ref 3, .int x1]) (fun h2 v3 =>
  some (h2, some (.int (v3 - (h2.1 3 3)))))) := by rfl
-- WhirlShafts$Disc.tells(I)I with (4, None)
set_option maxRecDepth 20000 in
theorem b13_0_2 (X : q_X) (O : q_O) (n : Nat) (h : q_S) (x1 : Int32) : q_go e_13 X O (n + 1) 0 [(0, .ref 4), (1, .int x1)] [] h =
  q_c0 (O 9 h [.ref 4, .int 12]) (fun h1 =>
  q_c1 (O 12 h1 [.ref 4, .int x1]) (fun h2 v3 =>
  some (h2, some (.int (v3 - (h2.1 4 3)))))) := by rfl
-- WhirlShafts$Disc.tells(I)I with (5, None)
set_option maxRecDepth 20000 in
theorem b13_0_3 (X : q_X) (O : q_O) (n : Nat) (h : q_S) (x1 : Int32) : q_go e_13 X O (n + 1) 0 [(0, .ref 5), (1, .int x1)] [] h =
  q_c0 (O 9 h [.ref 5, .int 12]) (fun h1 =>
  q_c1 (O 47 h1 [.ref 5, .int x1]) (fun h2 v3 =>
  some (h2, some (.int (v3 - (h2.1 5 3)))))) := by rfl
-- WhirlShafts$Disc.tells(I)I with (6, None)
set_option maxRecDepth 20000 in
theorem b13_0_4 (X : q_X) (O : q_O) (n : Nat) (h : q_S) (x1 : Int32) : q_go e_13 X O (n + 1) 0 [(0, .ref 6), (1, .int x1)] [] h =
  q_c0 (O 9 h [.ref 6, .int 12]) (fun h1 =>
  q_c1 (O 54 h1 [.ref 6, .int x1]) (fun h2 v3 =>
  some (h2, some (.int (v3 - (h2.1 6 3)))))) := by rfl
-- WhirlShafts$Hub.weighs(II)I with (4, None, None)
set_option maxRecDepth 20000 in
theorem b14_0 (X : q_X) (O : q_O) (n : Nat) (h : q_S) (x1 : Int32) (x2 : Int32) : q_go e_14 X O (n + 1) 0 [(0, .ref 4), (1, .int x1), (2, .int x2)] [] h =
  if 2 = 0 then none else
  some (h, some (.int ((x1 + 1) / 2))) := by rfl
-- WhirlShafts$Hub.weighs(II)I with (6, None, None)
set_option maxRecDepth 20000 in
theorem b14_0_1 (X : q_X) (O : q_O) (n : Nat) (h : q_S) (x1 : Int32) (x2 : Int32) : q_go e_14 X O (n + 1) 0 [(0, .ref 6), (1, .int x1), (2, .int x2)] [] h =
  if 2 = 0 then none else
  some (h, some (.int ((x1 + 1) / 2))) := by rfl
-- WhirlShafts$Hub.spins(I)I with (4, None)
set_option maxRecDepth 20000 in
theorem b15_0 (X : q_X) (O : q_O) (n : Nat) (h : q_S) (x1 : Int32) : q_go e_15 X O (n + 1) 0 [(0, .ref 4), (1, .int x1)] [] h =
  q_c0 (O 9 h [.ref 4, .int 30]) (fun h1 =>
  q_c1 (O 11 h1 [.ref 4, .int x1]) (fun h2 v3 =>
  some (h2, some (.int (-v3))))) := by rfl
-- WhirlShafts$Hub.spins(I)I with (6, None)
set_option maxRecDepth 20000 in
theorem b15_0_1 (X : q_X) (O : q_O) (n : Nat) (h : q_S) (x1 : Int32) : q_go e_15 X O (n + 1) 0 [(0, .ref 6), (1, .int x1)] [] h =
  q_c0 (O 9 h [.ref 6, .int 30]) (fun h1 =>
  q_c1 (O 11 h1 [.ref 6, .int x1]) (fun h2 v3 =>
  some (h2, some (.int (-v3))))) := by rfl
-- WhirlShafts$Line.takeFrom(LWhirlShafts$Line;)V with (12, 24)
set_option maxRecDepth 20000 in
theorem b16_0 (X : q_X) (O : q_O) (n : Nat) (h : q_S)  : q_go e_16 X O (n + 1) 0 [(0, .ref 12), (1, .ref 24)] [] h =
  q_arc (q_si (q_si (q_si h 12 6 (h.1 24 6)) 12 7 (h.1 24 7)) 12 8 (h.1 24 8)) 25 0 13 0 8 (fun h1 =>
  q_arc h1 26 0 14 0 8 (fun h2 =>
  q_arc h2 27 0 15 0 8 (fun h3 =>
  q_arc h3 28 0 16 0 8 (fun h4 =>
  q_arc h4 29 0 17 0 8 (fun h5 =>
  some (h5, none)))))) := by rfl
-- WhirlShafts$Line.takeFrom(LWhirlShafts$Line;)V with (18, 12)
set_option maxRecDepth 20000 in
theorem b16_0_1 (X : q_X) (O : q_O) (n : Nat) (h : q_S)  : q_go e_16 X O (n + 1) 0 [(0, .ref 18), (1, .ref 12)] [] h =
  q_arc (q_si (q_si (q_si h 18 6 (h.1 12 6)) 18 7 (h.1 12 7)) 18 8 (h.1 12 8)) 13 0 19 0 8 (fun h1 =>
  q_arc h1 14 0 20 0 8 (fun h2 =>
  q_arc h2 15 0 21 0 8 (fun h3 =>
  q_arc h3 16 0 22 0 8 (fun h4 =>
  q_arc h4 17 0 23 0 8 (fun h5 =>
  some (h5, none)))))) := by rfl
-- WhirlShafts$Line.takeFrom(LWhirlShafts$Line;)V with (24, 12)
set_option maxRecDepth 20000 in
theorem b16_0_2 (X : q_X) (O : q_O) (n : Nat) (h : q_S)  : q_go e_16 X O (n + 1) 0 [(0, .ref 24), (1, .ref 12)] [] h =
  q_arc (q_si (q_si (q_si h 24 6 (h.1 12 6)) 24 7 (h.1 12 7)) 24 8 (h.1 12 8)) 13 0 25 0 8 (fun h1 =>
  q_arc h1 14 0 26 0 8 (fun h2 =>
  q_arc h2 15 0 27 0 8 (fun h3 =>
  q_arc h3 16 0 28 0 8 (fun h4 =>
  q_arc h4 17 0 29 0 8 (fun h5 =>
  some (h5, none)))))) := by rfl
-- WhirlShafts$Line.join(III)I with (12, None, None, None)
set_option maxRecDepth 20000 in
theorem b17_0 (X : q_X) (O : q_O) (n : Nat) (h : q_S) (x1 : Int32) (x2 : Int32) (x3 : Int32) : q_go e_17 X O (n + 1) 0 [(0, .ref 12), (1, .int x1), (2, .int x2), (3, .int x3)] [] h =
  q_ix (h.1 12 6) 8 (fun j1 =>
  q_ix (h.1 12 6) 8 (fun j2 =>
  q_ix (h.1 12 6) 8 (fun j3 =>
  if 0 < (h.1 12 6) then
    q_ix ((h.1 12 6) - 1) 8 (fun j4 =>
    q_ix ((h.1 12 6) - 1) 8 (fun j5 =>
    q_go e_17 X O n 61 [(0, .ref 12)] [] (q_si (q_si (q_si (q_si (q_si h 13 j1 x1) 14 j2 x2) 15 j3 0) 16 j4 x3) 17 j5 1)))
  else
    q_go e_17 X O n 61 [(0, .ref 12)] [] (q_si (q_si (q_si h 13 j1 x1) 14 j2 x2) 15 j3 0)))) := by rfl
set_option maxRecDepth 20000 in
theorem b17_61 (X : q_X) (O : q_O) (n : Nat) (h : q_S)  : q_go e_17 X O (n + 1) 61 [(0, .ref 12)] [] h =
  some ((q_si h 12 6 ((h.1 12 6) + 1)), some (.int (((h.1 12 6) + 1) - 1))) := by rfl
-- WhirlShafts$Line.swap(I)V with (18, None)
set_option maxRecDepth 20000 in
theorem b18_0 (X : q_X) (O : q_O) (n : Nat) (h : q_S) (x1 : Int32) : q_go e_18 X O (n + 1) 0 [(0, .ref 18), (1, .int x1)] [] h =
  q_ix x1 8 (fun j1 =>
  q_ix x1 8 (fun j2 =>
  q_ix (x1 + 1) 8 (fun j3 =>
  q_ix x1 8 (fun j4 =>
  q_ix (x1 + 1) 8 (fun j5 =>
  q_ix x1 8 (fun j6 =>
  q_ix (x1 + 1) 8 (fun j7 =>
  q_ix (x1 + 1) 8 (fun j8 =>
  some ((q_si (q_si (q_si (q_si h 19 j4 (h.1 19 j3)) 20 j6 (h.1 20 j5)) 19 j7 (h.1 19 j1)) 20 j8 (h.1 20 j2)), none))))))))) := by rfl
-- WhirlShafts$Line.hasDisc(I)Z with (12, None)
set_option maxRecDepth 20000 in
theorem b19_0 (X : q_X) (O : q_O) (n : Nat) (h : q_S) (x1 : Int32) : q_go e_19 X O (n + 1) 0 [(0, .ref 12), (1, .int x1)] [] h =
  if x1 < 0 then
    some (h, some (.int 0))
  else
    if x1 < (h.1 12 6) then
      some (h, some (.int 1))
    else
      some (h, some (.int 0)) := by rfl
-- WhirlShafts$Line.hasDisc(I)Z with (18, None)
set_option maxRecDepth 20000 in
theorem b19_0_1 (X : q_X) (O : q_O) (n : Nat) (h : q_S) (x1 : Int32) : q_go e_19 X O (n + 1) 0 [(0, .ref 18), (1, .int x1)] [] h =
  if x1 < 0 then
    some (h, some (.int 0))
  else
    if x1 < (h.1 18 6) then
      some (h, some (.int 1))
    else
      some (h, some (.int 0)) := by rfl
-- WhirlShafts$Line.hasShaft(I)Z with (12, None)
set_option maxRecDepth 20000 in
theorem b20_0 (X : q_X) (O : q_O) (n : Nat) (h : q_S) (x1 : Int32) : q_go e_20 X O (n + 1) 0 [(0, .ref 12), (1, .int x1)] [] h =
  if x1 < 0 then
    some (h, some (.int 0))
  else
    if x1 < ((h.1 12 6) - 1) then
      some (h, some (.int 1))
    else
      some (h, some (.int 0)) := by rfl
-- WhirlShafts$Line.hasShaft(I)Z with (18, None)
set_option maxRecDepth 20000 in
theorem b20_0_1 (X : q_X) (O : q_O) (n : Nat) (h : q_S) (x1 : Int32) : q_go e_20 X O (n + 1) 0 [(0, .ref 18), (1, .int x1)] [] h =
  if x1 < 0 then
    some (h, some (.int 0))
  else
    if x1 < ((h.1 18 6) - 1) then
      some (h, some (.int 1))
    else
      some (h, some (.int 0)) := by rfl
-- WhirlShafts$Line.hasPlace(II)Z with (12, None, None)
set_option maxRecDepth 20000 in
theorem b21_0 (X : q_X) (O : q_O) (n : Nat) (h : q_S) (x1 : Int32) (x2 : Int32) : q_go e_21 X O (n + 1) 0 [(0, .ref 12), (1, .int x1), (2, .int x2)] [] h =
  if x1 = 0 then
    q_c1 (O 19 h [.ref 12, .int x2]) (fun h1 v2 =>
    if v2 = 0 ∨ v2 = 1 then some (h1, some (.int v2)) else none)
  else if x1 = 1 then
    q_c1 (O 20 h [.ref 12, .int x2]) (fun h3 v4 =>
    if v4 = 0 ∨ v4 = 1 then some (h3, some (.int v4)) else none)
  else if x1 = 2 then
    q_c1 (O 19 h [.ref 12, .int x2]) (fun h5 v6 =>
    if v6 = 0 ∨ v6 = 1 then some (h5, some (.int v6)) else none)
  else if x1 = 3 then
    q_c1 (O 20 h [.ref 12, .int x2]) (fun h7 v8 =>
    if v8 = 0 ∨ v8 = 1 then some (h7, some (.int v8)) else none)
  else if x1 = 4 then
    some (h, some (.int 1))
  else if x1 = 5 then
    some (h, some (.int 1))
  else 
    some (h, some (.int 0)) := by rfl
-- WhirlShafts$Line.hasPlace(II)Z with (18, None, None)
set_option maxRecDepth 20000 in
theorem b21_0_1 (X : q_X) (O : q_O) (n : Nat) (h : q_S) (x1 : Int32) (x2 : Int32) : q_go e_21 X O (n + 1) 0 [(0, .ref 18), (1, .int x1), (2, .int x2)] [] h =
  if x1 = 0 then
    q_c1 (O 19 h [.ref 18, .int x2]) (fun h1 v2 =>
    if v2 = 0 ∨ v2 = 1 then some (h1, some (.int v2)) else none)
  else if x1 = 1 then
    q_c1 (O 20 h [.ref 18, .int x2]) (fun h3 v4 =>
    if v4 = 0 ∨ v4 = 1 then some (h3, some (.int v4)) else none)
  else if x1 = 2 then
    q_c1 (O 19 h [.ref 18, .int x2]) (fun h5 v6 =>
    if v6 = 0 ∨ v6 = 1 then some (h5, some (.int v6)) else none)
  else if x1 = 3 then
    q_c1 (O 20 h [.ref 18, .int x2]) (fun h7 v8 =>
    if v8 = 0 ∨ v8 = 1 then some (h7, some (.int v8)) else none)
  else if x1 = 4 then
    some (h, some (.int 1))
  else if x1 = 5 then
    some (h, some (.int 1))
  else 
    some (h, some (.int 0)) := by rfl
-- WhirlShafts$Line.refusal(III)I with (12, None, None, None)
set_option maxRecDepth 20000 in
theorem b22_0 (X : q_X) (O : q_O) (n : Nat) (h : q_S) (x1 : Int32) (x2 : Int32) (x3 : Int32) : q_go e_22 X O (n + 1) 0 [(0, .ref 12), (1, .int x1), (2, .int x2), (3, .int x3)] [] h =
  q_c1 (O 21 h [.ref 12, .int x1, .int x2]) (fun h1 v2 =>
  if v2 = 0 then
    some (h1, some (.int (-1)))
  else
    q_c1 (O 105 h1 [.int x1, .int x3]) (fun h3 v4 =>
    if v4 = 0 then
      some (h3, some (.int (-1)))
    else
      if x1 = 3 then
        q_c1 (O 26 h3 [.ref 12, .int x2]) (fun h5 v6 =>
        if 6 < (v6 * x3) then
          some (h5, some (.int (-5)))
        else
          some (h5, some (.int 0)))
      else
        some (h3, some (.int 0)))) := by rfl
-- WhirlShafts$Line.refusal(III)I with (18, None, None, None)
set_option maxRecDepth 20000 in
theorem b22_0_1 (X : q_X) (O : q_O) (n : Nat) (h : q_S) (x1 : Int32) (x2 : Int32) (x3 : Int32) : q_go e_22 X O (n + 1) 0 [(0, .ref 18), (1, .int x1), (2, .int x2), (3, .int x3)] [] h =
  q_c1 (O 21 h [.ref 18, .int x1, .int x2]) (fun h1 v2 =>
  if v2 = 0 then
    some (h1, some (.int (-1)))
  else
    q_c1 (O 105 h1 [.int x1, .int x3]) (fun h3 v4 =>
    if v4 = 0 then
      some (h3, some (.int (-1)))
    else
      if x1 = 3 then
        q_c1 (O 26 h3 [.ref 18, .int x2]) (fun h5 v6 =>
        if 6 < (v6 * x3) then
          some (h5, some (.int (-5)))
        else
          some (h5, some (.int 0)))
      else
        some (h3, some (.int 0)))) := by rfl
-- WhirlShafts$Line.told(II)I with (12, None, None)
set_option maxRecDepth 20000 in
theorem b23_0 (X : q_X) (O : q_O) (n : Nat) (h : q_S) (x1 : Int32) (x2 : Int32) : q_go e_23 X O (n + 1) 0 [(0, .ref 12), (1, .int x1), (2, .int x2)] [] h =
  if x1 = 0 then
    q_ix x2 8 (fun j1 =>
    some (h, some (.int (h.1 14 j1))))
  else if x1 = 1 then
    q_ix x2 8 (fun j2 =>
    some (h, some (.int (h.1 16 j2))))
  else if x1 = 2 then
    q_ix x2 8 (fun j3 =>
    some (h, some (.int (h.1 15 j3))))
  else if x1 = 3 then
    q_ix x2 8 (fun j4 =>
    some (h, some (.int (h.1 17 j4))))
  else if x1 = 4 then
    some (h, some (.int (h.1 12 7)))
  else 
    some (h, some (.int (h.1 12 8))) := by rfl
-- WhirlShafts$Line.tell(III)V with (12, None, None, None)
set_option maxRecDepth 20000 in
theorem b24_0 (X : q_X) (O : q_O) (n : Nat) (h : q_S) (x1 : Int32) (x2 : Int32) (x3 : Int32) : q_go e_24 X O (n + 1) 0 [(0, .ref 12), (1, .int x1), (2, .int x2), (3, .int x3)] [] h =
  if x1 = 0 then
    q_ix x2 8 (fun j1 =>
    some ((q_si h 14 j1 x3), none))
  else if x1 = 1 then
    q_ix x2 8 (fun j2 =>
    some ((q_si h 16 j2 x3), none))
  else if x1 = 2 then
    q_ix x2 8 (fun j3 =>
    some ((q_si h 15 j3 x3), none))
  else if x1 = 3 then
    q_ix x2 8 (fun j4 =>
    some ((q_si h 17 j4 x3), none))
  else if x1 = 4 then
    some ((q_si h 12 7 x3), none)
  else 
    some ((q_si h 12 8 x3), none) := by rfl
-- WhirlShafts$Line.tell(III)V with (18, None, None, None)
set_option maxRecDepth 20000 in
theorem b24_0_1 (X : q_X) (O : q_O) (n : Nat) (h : q_S) (x1 : Int32) (x2 : Int32) (x3 : Int32) : q_go e_24 X O (n + 1) 0 [(0, .ref 18), (1, .int x1), (2, .int x2), (3, .int x3)] [] h =
  if x1 = 0 then
    q_ix x2 8 (fun j1 =>
    some ((q_si h 20 j1 x3), none))
  else if x1 = 1 then
    q_ix x2 8 (fun j2 =>
    some ((q_si h 22 j2 x3), none))
  else if x1 = 2 then
    q_ix x2 8 (fun j3 =>
    some ((q_si h 21 j3 x3), none))
  else if x1 = 3 then
    q_ix x2 8 (fun j4 =>
    some ((q_si h 23 j4 x3), none))
  else if x1 = 4 then
    some ((q_si h 18 7 x3), none)
  else 
    some ((q_si h 18 8 x3), none) := by rfl
-- WhirlShafts$Line.ratios(I)I with (12, None)
set_option maxRecDepth 20000 in
theorem b25_0 (X : q_X) (O : q_O) (n : Nat) (h : q_S) (x1 : Int32) : q_go e_25 X O (n + 1) 0 [(0, .ref 12), (1, .int x1)] [] h =
  q_go e_25 X O n 4 [(0, .ref 12), (1, .int x1), (2, .int 1), (3, .int 0)] [] h := by rfl
set_option maxRecDepth 20000 in
theorem b25_4 (X : q_X) (O : q_O) (n : Nat) (h : q_S) (x1 : Int32) (x2 : Int32) (x3 : Int32) : q_go e_25 X O (n + 1) 4 [(0, .ref 12), (1, .int x1), (2, .int x2), (3, .int x3)] [] h =
  if x3 < x1 then
    q_ix x3 8 (fun j1 =>
    q_go e_25 X O n 4 [(0, .ref 12), (1, .int x1), (2, .int (x2 * (h.1 17 j1))), (3, .int (x3 + 1))] [] h)
  else
    some (h, some (.int x2)) := by rfl
-- WhirlShafts$Line.ratios(I)I with (18, None)
set_option maxRecDepth 20000 in
theorem b25_0_1 (X : q_X) (O : q_O) (n : Nat) (h : q_S) (x1 : Int32) : q_go e_25 X O (n + 1) 0 [(0, .ref 18), (1, .int x1)] [] h =
  q_go e_25 X O n 4 [(0, .ref 18), (1, .int x1), (2, .int 1), (3, .int 0)] [] h := by rfl
set_option maxRecDepth 20000 in
theorem b25_4_1 (X : q_X) (O : q_O) (n : Nat) (h : q_S) (x1 : Int32) (x2 : Int32) (x3 : Int32) : q_go e_25 X O (n + 1) 4 [(0, .ref 18), (1, .int x1), (2, .int x2), (3, .int x3)] [] h =
  if x3 < x1 then
    q_ix x3 8 (fun j1 =>
    q_go e_25 X O n 4 [(0, .ref 18), (1, .int x1), (2, .int (x2 * (h.1 23 j1))), (3, .int (x3 + 1))] [] h)
  else
    some (h, some (.int x2)) := by rfl
-- WhirlShafts$Line.ratios(I)I with (24, None)
set_option maxRecDepth 20000 in
theorem b25_0_2 (X : q_X) (O : q_O) (n : Nat) (h : q_S) (x1 : Int32) : q_go e_25 X O (n + 1) 0 [(0, .ref 24), (1, .int x1)] [] h =
  q_go e_25 X O n 4 [(0, .ref 24), (1, .int x1), (2, .int 1), (3, .int 0)] [] h := by rfl
set_option maxRecDepth 20000 in
theorem b25_4_2 (X : q_X) (O : q_O) (n : Nat) (h : q_S) (x1 : Int32) (x2 : Int32) (x3 : Int32) : q_go e_25 X O (n + 1) 4 [(0, .ref 24), (1, .int x1), (2, .int x2), (3, .int x3)] [] h =
  if x3 < x1 then
    q_ix x3 8 (fun j1 =>
    q_go e_25 X O n 4 [(0, .ref 24), (1, .int x1), (2, .int (x2 * (h.1 29 j1))), (3, .int (x3 + 1))] [] h)
  else
    some (h, some (.int x2)) := by rfl
-- WhirlShafts$Line.ratiosBut(I)I with (12, None)
set_option maxRecDepth 20000 in
theorem b26_0 (X : q_X) (O : q_O) (n : Nat) (h : q_S) (x1 : Int32) : q_go e_26 X O (n + 1) 0 [(0, .ref 12), (1, .int x1)] [] h =
  q_go e_26 X O n 4 [(0, .ref 12), (1, .int x1), (2, .int 1), (3, .int 0)] [] h := by rfl
set_option maxRecDepth 20000 in
theorem b26_4 (X : q_X) (O : q_O) (n : Nat) (h : q_S) (x1 : Int32) (x2 : Int32) (x3 : Int32) : q_go e_26 X O (n + 1) 4 [(0, .ref 12), (1, .int x1), (2, .int x2), (3, .int x3)] [] h =
  if x3 < ((h.1 12 6) - 1) then
    if x3 = x1 then
      q_go e_26 X O n 4 [(0, .ref 12), (1, .int x1), (2, .int x2), (3, .int (x3 + 1))] [] h
    else
      q_ix x3 8 (fun j1 =>
      q_go e_26 X O n 4 [(0, .ref 12), (1, .int x1), (2, .int (x2 * (h.1 17 j1))), (3, .int (x3 + 1))] [] h)
  else
    some (h, some (.int x2)) := by rfl
-- WhirlShafts$Line.ratiosBut(I)I with (18, None)
set_option maxRecDepth 20000 in
theorem b26_0_1 (X : q_X) (O : q_O) (n : Nat) (h : q_S) (x1 : Int32) : q_go e_26 X O (n + 1) 0 [(0, .ref 18), (1, .int x1)] [] h =
  q_go e_26 X O n 4 [(0, .ref 18), (1, .int x1), (2, .int 1), (3, .int 0)] [] h := by rfl
set_option maxRecDepth 20000 in
theorem b26_4_1 (X : q_X) (O : q_O) (n : Nat) (h : q_S) (x1 : Int32) (x2 : Int32) (x3 : Int32) : q_go e_26 X O (n + 1) 4 [(0, .ref 18), (1, .int x1), (2, .int x2), (3, .int x3)] [] h =
  if x3 < ((h.1 18 6) - 1) then
    if x3 = x1 then
      q_go e_26 X O n 4 [(0, .ref 18), (1, .int x1), (2, .int x2), (3, .int (x3 + 1))] [] h
    else
      q_ix x3 8 (fun j1 =>
      q_go e_26 X O n 4 [(0, .ref 18), (1, .int x1), (2, .int (x2 * (h.1 23 j1))), (3, .int (x3 + 1))] [] h)
  else
    some (h, some (.int x2)) := by rfl
-- WhirlShafts$Line.factor(I)I with (12, None)
set_option maxRecDepth 20000 in
theorem b27_0 (X : q_X) (O : q_O) (n : Nat) (h : q_S) (x1 : Int32) : q_go e_27 X O (n + 1) 0 [(0, .ref 12), (1, .int x1)] [] h =
  q_c1 (O 25 h [.ref 12, .int x1]) (fun h1 v2 =>
  some (h1, some (.int (v2 * v2)))) := by rfl
-- WhirlShafts$Line.factor(I)I with (18, None)
set_option maxRecDepth 20000 in
theorem b27_0_1 (X : q_X) (O : q_O) (n : Nat) (h : q_S) (x1 : Int32) : q_go e_27 X O (n + 1) 0 [(0, .ref 18), (1, .int x1)] [] h =
  q_c1 (O 25 h [.ref 18, .int x1]) (fun h1 v2 =>
  some (h1, some (.int (v2 * v2)))) := by rfl
-- WhirlShafts$Line.factor(I)I with (24, None)
set_option maxRecDepth 20000 in
theorem b27_0_2 (X : q_X) (O : q_O) (n : Nat) (h : q_S) (x1 : Int32) : q_go e_27 X O (n + 1) 0 [(0, .ref 24), (1, .int x1)] [] h =
  q_c1 (O 25 h [.ref 24, .int x1]) (fun h1 v2 =>
  some (h1, some (.int (v2 * v2)))) := by rfl
-- WhirlShafts$Line.weight(I)I with (12, None)
set_option maxRecDepth 20000 in
theorem b28_0 (X : q_X) (O : q_O) (n : Nat) (h : q_S) (x1 : Int32) : q_go e_28 X O (n + 1) 0 [(0, .ref 12), (1, .int x1)] [] h =
  q_ix x1 8 (fun j1 =>
  q_ix (h.1 13 j1) 5 (fun j2 =>
  q_go e_28 X O n 11 [(0, .ref 12), (1, .int x1)] [.ref (q_rf 1 j2)] h)) := by rfl
set_option maxRecDepth 20000 in
theorem b28_11 (X : q_X) (O : q_O) (n : Nat) (h : q_S) (x1 : Int32) : q_go e_28 X O (n + 1) 11 [(0, .ref 12), (1, .int x1)] [.ref 2] h =
  q_ix x1 8 (fun j1 =>
  q_c1 (O 10 h [.ref 2, .int (h.1 14 j1), .int (h.1 12 7)]) (fun h2 v3 =>
  some (h2, some (.int v3)))) := by rfl
set_option maxRecDepth 20000 in
theorem b28_11_1 (X : q_X) (O : q_O) (n : Nat) (h : q_S) (x1 : Int32) : q_go e_28 X O (n + 1) 11 [(0, .ref 12), (1, .int x1)] [.ref 3] h =
  q_ix x1 8 (fun j1 =>
  q_c1 (O 46 h [.ref 3, .int (h.1 14 j1), .int (h.1 12 7)]) (fun h2 v3 =>
  some (h2, some (.int v3)))) := by rfl
set_option maxRecDepth 20000 in
theorem b28_11_2 (X : q_X) (O : q_O) (n : Nat) (h : q_S) (x1 : Int32) : q_go e_28 X O (n + 1) 11 [(0, .ref 12), (1, .int x1)] [.ref 4] h =
  q_ix x1 8 (fun j1 =>
  q_c1 (O 14 h [.ref 4, .int (h.1 14 j1), .int (h.1 12 7)]) (fun h2 v3 =>
  some (h2, some (.int v3)))) := by rfl
set_option maxRecDepth 20000 in
theorem b28_11_3 (X : q_X) (O : q_O) (n : Nat) (h : q_S) (x1 : Int32) : q_go e_28 X O (n + 1) 11 [(0, .ref 12), (1, .int x1)] [.ref 5] h =
  q_ix x1 8 (fun j1 =>
  q_c1 (O 5 h [.ref 5, .int (h.1 14 j1), .int (h.1 12 7)]) (fun h2 v3 =>
  some (h2, some (.int v3)))) := by rfl
set_option maxRecDepth 20000 in
theorem b28_11_4 (X : q_X) (O : q_O) (n : Nat) (h : q_S) (x1 : Int32) : q_go e_28 X O (n + 1) 11 [(0, .ref 12), (1, .int x1)] [.ref 6] h =
  q_ix x1 8 (fun j1 =>
  q_c1 (O 53 h [.ref 6, .int (h.1 14 j1), .int (h.1 12 7)]) (fun h2 v3 =>
  some (h2, some (.int v3)))) := by rfl
-- WhirlShafts$Line.weight(I)I with (18, None)
set_option maxRecDepth 20000 in
theorem b28_0_1 (X : q_X) (O : q_O) (n : Nat) (h : q_S) (x1 : Int32) : q_go e_28 X O (n + 1) 0 [(0, .ref 18), (1, .int x1)] [] h =
  q_ix x1 8 (fun j1 =>
  q_ix (h.1 19 j1) 5 (fun j2 =>
  q_go e_28 X O n 11 [(0, .ref 18), (1, .int x1)] [.ref (q_rf 1 j2)] h)) := by rfl
set_option maxRecDepth 20000 in
theorem b28_11_5 (X : q_X) (O : q_O) (n : Nat) (h : q_S) (x1 : Int32) : q_go e_28 X O (n + 1) 11 [(0, .ref 18), (1, .int x1)] [.ref 2] h =
  q_ix x1 8 (fun j1 =>
  q_c1 (O 10 h [.ref 2, .int (h.1 20 j1), .int (h.1 18 7)]) (fun h2 v3 =>
  some (h2, some (.int v3)))) := by rfl
set_option maxRecDepth 20000 in
theorem b28_11_6 (X : q_X) (O : q_O) (n : Nat) (h : q_S) (x1 : Int32) : q_go e_28 X O (n + 1) 11 [(0, .ref 18), (1, .int x1)] [.ref 3] h =
  q_ix x1 8 (fun j1 =>
  q_c1 (O 46 h [.ref 3, .int (h.1 20 j1), .int (h.1 18 7)]) (fun h2 v3 =>
  some (h2, some (.int v3)))) := by rfl
set_option maxRecDepth 20000 in
theorem b28_11_7 (X : q_X) (O : q_O) (n : Nat) (h : q_S) (x1 : Int32) : q_go e_28 X O (n + 1) 11 [(0, .ref 18), (1, .int x1)] [.ref 4] h =
  q_ix x1 8 (fun j1 =>
  q_c1 (O 14 h [.ref 4, .int (h.1 20 j1), .int (h.1 18 7)]) (fun h2 v3 =>
  some (h2, some (.int v3)))) := by rfl
set_option maxRecDepth 20000 in
theorem b28_11_8 (X : q_X) (O : q_O) (n : Nat) (h : q_S) (x1 : Int32) : q_go e_28 X O (n + 1) 11 [(0, .ref 18), (1, .int x1)] [.ref 5] h =
  q_ix x1 8 (fun j1 =>
  q_c1 (O 5 h [.ref 5, .int (h.1 20 j1), .int (h.1 18 7)]) (fun h2 v3 =>
  some (h2, some (.int v3)))) := by rfl
set_option maxRecDepth 20000 in
theorem b28_11_9 (X : q_X) (O : q_O) (n : Nat) (h : q_S) (x1 : Int32) : q_go e_28 X O (n + 1) 11 [(0, .ref 18), (1, .int x1)] [.ref 6] h =
  q_ix x1 8 (fun j1 =>
  q_c1 (O 53 h [.ref 6, .int (h.1 20 j1), .int (h.1 18 7)]) (fun h2 v3 =>
  some (h2, some (.int v3)))) := by rfl
-- WhirlShafts$Line.weight(I)I with (24, None)
set_option maxRecDepth 20000 in
theorem b28_0_2 (X : q_X) (O : q_O) (n : Nat) (h : q_S) (x1 : Int32) : q_go e_28 X O (n + 1) 0 [(0, .ref 24), (1, .int x1)] [] h =
  q_ix x1 8 (fun j1 =>
  q_ix (h.1 25 j1) 5 (fun j2 =>
  q_go e_28 X O n 11 [(0, .ref 24), (1, .int x1)] [.ref (q_rf 1 j2)] h)) := by rfl
set_option maxRecDepth 20000 in
theorem b28_11_10 (X : q_X) (O : q_O) (n : Nat) (h : q_S) (x1 : Int32) : q_go e_28 X O (n + 1) 11 [(0, .ref 24), (1, .int x1)] [.ref 2] h =
  q_ix x1 8 (fun j1 =>
  q_c1 (O 10 h [.ref 2, .int (h.1 26 j1), .int (h.1 24 7)]) (fun h2 v3 =>
  some (h2, some (.int v3)))) := by rfl
set_option maxRecDepth 20000 in
theorem b28_11_11 (X : q_X) (O : q_O) (n : Nat) (h : q_S) (x1 : Int32) : q_go e_28 X O (n + 1) 11 [(0, .ref 24), (1, .int x1)] [.ref 3] h =
  q_ix x1 8 (fun j1 =>
  q_c1 (O 46 h [.ref 3, .int (h.1 26 j1), .int (h.1 24 7)]) (fun h2 v3 =>
  some (h2, some (.int v3)))) := by rfl
set_option maxRecDepth 20000 in
theorem b28_11_12 (X : q_X) (O : q_O) (n : Nat) (h : q_S) (x1 : Int32) : q_go e_28 X O (n + 1) 11 [(0, .ref 24), (1, .int x1)] [.ref 4] h =
  q_ix x1 8 (fun j1 =>
  q_c1 (O 14 h [.ref 4, .int (h.1 26 j1), .int (h.1 24 7)]) (fun h2 v3 =>
  some (h2, some (.int v3)))) := by rfl
set_option maxRecDepth 20000 in
theorem b28_11_13 (X : q_X) (O : q_O) (n : Nat) (h : q_S) (x1 : Int32) : q_go e_28 X O (n + 1) 11 [(0, .ref 24), (1, .int x1)] [.ref 5] h =
  q_ix x1 8 (fun j1 =>
  q_c1 (O 5 h [.ref 5, .int (h.1 26 j1), .int (h.1 24 7)]) (fun h2 v3 =>
  some (h2, some (.int v3)))) := by rfl
set_option maxRecDepth 20000 in
theorem b28_11_14 (X : q_X) (O : q_O) (n : Nat) (h : q_S) (x1 : Int32) : q_go e_28 X O (n + 1) 11 [(0, .ref 24), (1, .int x1)] [.ref 6] h =
  q_ix x1 8 (fun j1 =>
  q_c1 (O 53 h [.ref 6, .int (h.1 26 j1), .int (h.1 24 7)]) (fun h2 v3 =>
  some (h2, some (.int v3)))) := by rfl
-- WhirlShafts$Line.reducedInertia(I)I with (12, None)
set_option maxRecDepth 20000 in
theorem b29_0 (X : q_X) (O : q_O) (n : Nat) (h : q_S) (x1 : Int32) : q_go e_29 X O (n + 1) 0 [(0, .ref 12), (1, .int x1)] [] h =
  q_c1 (O 28 h [.ref 12, .int x1]) (fun h1 v2 =>
  if (h1.1 12 8) = 1 then
    if 20 = 0 then none else
    q_c1 (O 27 h1 [.ref 12, .int x1]) (fun h3 v4 =>
    some (h3, some (.int ((v2 - ((v2 * (h1.1 12 7)) / 20)) * v4))))
  else
    if (h1.1 12 8) = 2 then
      if 10 = 0 then none else
      q_c1 (O 27 h1 [.ref 12, .int x1]) (fun h5 v6 =>
      some (h5, some (.int ((v2 + ((v2 * (h1.1 12 7)) / 10)) * v6))))
    else
      q_c1 (O 27 h1 [.ref 12, .int x1]) (fun h7 v8 =>
      some (h7, some (.int (v2 * v8))))) := by rfl
-- WhirlShafts$Line.reducedInertia(I)I with (18, None)
set_option maxRecDepth 20000 in
theorem b29_0_1 (X : q_X) (O : q_O) (n : Nat) (h : q_S) (x1 : Int32) : q_go e_29 X O (n + 1) 0 [(0, .ref 18), (1, .int x1)] [] h =
  q_c1 (O 28 h [.ref 18, .int x1]) (fun h1 v2 =>
  if (h1.1 18 8) = 1 then
    if 20 = 0 then none else
    q_c1 (O 27 h1 [.ref 18, .int x1]) (fun h3 v4 =>
    some (h3, some (.int ((v2 - ((v2 * (h1.1 18 7)) / 20)) * v4))))
  else
    if (h1.1 18 8) = 2 then
      if 10 = 0 then none else
      q_c1 (O 27 h1 [.ref 18, .int x1]) (fun h5 v6 =>
      some (h5, some (.int ((v2 + ((v2 * (h1.1 18 7)) / 10)) * v6))))
    else
      q_c1 (O 27 h1 [.ref 18, .int x1]) (fun h7 v8 =>
      some (h7, some (.int (v2 * v8))))) := by rfl
-- WhirlShafts$Line.reducedInertia(I)I with (24, None)
set_option maxRecDepth 20000 in
theorem b29_0_2 (X : q_X) (O : q_O) (n : Nat) (h : q_S) (x1 : Int32) : q_go e_29 X O (n + 1) 0 [(0, .ref 24), (1, .int x1)] [] h =
  q_c1 (O 28 h [.ref 24, .int x1]) (fun h1 v2 =>
  if (h1.1 24 8) = 1 then
    if 20 = 0 then none else
    q_c1 (O 27 h1 [.ref 24, .int x1]) (fun h3 v4 =>
    some (h3, some (.int ((v2 - ((v2 * (h1.1 24 7)) / 20)) * v4))))
  else
    if (h1.1 24 8) = 2 then
      if 10 = 0 then none else
      q_c1 (O 27 h1 [.ref 24, .int x1]) (fun h5 v6 =>
      some (h5, some (.int ((v2 + ((v2 * (h1.1 24 7)) / 10)) * v6))))
    else
      q_c1 (O 27 h1 [.ref 24, .int x1]) (fun h7 v8 =>
      some (h7, some (.int (v2 * v8))))) := by rfl
-- WhirlShafts$Line.reducedBearing(I)I with (12, None)
set_option maxRecDepth 20000 in
theorem b30_0 (X : q_X) (O : q_O) (n : Nat) (h : q_S) (x1 : Int32) : q_go e_30 X O (n + 1) 0 [(0, .ref 12), (1, .int x1)] [] h =
  q_ix x1 8 (fun j1 =>
  q_c1 (O 27 h [.ref 12, .int x1]) (fun h2 v3 =>
  some (h2, some (.int ((h.1 15 j1) * v3))))) := by rfl
-- WhirlShafts$Line.reducedBearing(I)I with (18, None)
set_option maxRecDepth 20000 in
theorem b30_0_1 (X : q_X) (O : q_O) (n : Nat) (h : q_S) (x1 : Int32) : q_go e_30 X O (n + 1) 0 [(0, .ref 18), (1, .int x1)] [] h =
  q_ix x1 8 (fun j1 =>
  q_c1 (O 27 h [.ref 18, .int x1]) (fun h2 v3 =>
  some (h2, some (.int ((h.1 21 j1) * v3))))) := by rfl
-- WhirlShafts$Line.reducedBearing(I)I with (24, None)
set_option maxRecDepth 20000 in
theorem b30_0_2 (X : q_X) (O : q_O) (n : Nat) (h : q_S) (x1 : Int32) : q_go e_30 X O (n + 1) 0 [(0, .ref 24), (1, .int x1)] [] h =
  q_ix x1 8 (fun j1 =>
  q_c1 (O 27 h [.ref 24, .int x1]) (fun h2 v3 =>
  some (h2, some (.int ((h.1 27 j1) * v3))))) := by rfl
-- WhirlShafts$Line.reducedStiff(I)I with (12, None)
set_option maxRecDepth 20000 in
theorem b31_0 (X : q_X) (O : q_O) (n : Nat) (h : q_S) (x1 : Int32) : q_go e_31 X O (n + 1) 0 [(0, .ref 12), (1, .int x1)] [] h =
  q_ix x1 8 (fun j1 =>
  q_c1 (O 27 h [.ref 12, .int x1]) (fun h2 v3 =>
  some (h2, some (.int ((h.1 16 j1) * v3))))) := by rfl
-- WhirlShafts$Line.reducedStiff(I)I with (18, None)
set_option maxRecDepth 20000 in
theorem b31_0_1 (X : q_X) (O : q_O) (n : Nat) (h : q_S) (x1 : Int32) : q_go e_31 X O (n + 1) 0 [(0, .ref 18), (1, .int x1)] [] h =
  q_ix x1 8 (fun j1 =>
  q_c1 (O 27 h [.ref 18, .int x1]) (fun h2 v3 =>
  some (h2, some (.int ((h.1 22 j1) * v3))))) := by rfl
-- WhirlShafts$Line.reducedStiff(I)I with (24, None)
set_option maxRecDepth 20000 in
theorem b31_0_2 (X : q_X) (O : q_O) (n : Nat) (h : q_S) (x1 : Int32) : q_go e_31 X O (n + 1) 0 [(0, .ref 24), (1, .int x1)] [] h =
  q_ix x1 8 (fun j1 =>
  q_c1 (O 27 h [.ref 24, .int x1]) (fun h2 v3 =>
  some (h2, some (.int ((h.1 28 j1) * v3))))) := by rfl
-- WhirlShafts$Line.holds(I)I with (12, None)
set_option maxRecDepth 20000 in
theorem b32_0 (X : q_X) (O : q_O) (n : Nat) (h : q_S) (x1 : Int32) : q_go e_32 X O (n + 1) 0 [(0, .ref 12), (1, .int x1)] [] h =
  q_c1 (O 30 h [.ref 12, .int x1]) (fun h1 v2 =>
  if 0 < x1 then
    q_c1 (O 31 h1 [.ref 12, .int (x1 - 1)]) (fun h3 v4 =>
    q_go e_32 X O n 20 [(0, .ref 12), (1, .int x1), (2, .int (v2 + v4))] [] h3)
  else
    q_go e_32 X O n 20 [(0, .ref 12), (1, .int x1), (2, .int v2)] [] h1) := by rfl
set_option maxRecDepth 20000 in
theorem b32_20 (X : q_X) (O : q_O) (n : Nat) (h : q_S) (x1 : Int32) (x2 : Int32) : q_go e_32 X O (n + 1) 20 [(0, .ref 12), (1, .int x1), (2, .int x2)] [] h =
  if x1 < ((h.1 12 6) - 1) then
    q_c1 (O 31 h [.ref 12, .int x1]) (fun h1 v2 =>
    some (h1, some (.int (x2 + v2))))
  else
    some (h, some (.int x2)) := by rfl
-- WhirlShafts$Line.holds(I)I with (18, None)
set_option maxRecDepth 20000 in
theorem b32_0_1 (X : q_X) (O : q_O) (n : Nat) (h : q_S) (x1 : Int32) : q_go e_32 X O (n + 1) 0 [(0, .ref 18), (1, .int x1)] [] h =
  q_c1 (O 30 h [.ref 18, .int x1]) (fun h1 v2 =>
  if 0 < x1 then
    q_c1 (O 31 h1 [.ref 18, .int (x1 - 1)]) (fun h3 v4 =>
    q_go e_32 X O n 20 [(0, .ref 18), (1, .int x1), (2, .int (v2 + v4))] [] h3)
  else
    q_go e_32 X O n 20 [(0, .ref 18), (1, .int x1), (2, .int v2)] [] h1) := by rfl
set_option maxRecDepth 20000 in
theorem b32_20_1 (X : q_X) (O : q_O) (n : Nat) (h : q_S) (x1 : Int32) (x2 : Int32) : q_go e_32 X O (n + 1) 20 [(0, .ref 18), (1, .int x1), (2, .int x2)] [] h =
  if x1 < ((h.1 18 6) - 1) then
    q_c1 (O 31 h [.ref 18, .int x1]) (fun h1 v2 =>
    some (h1, some (.int (x2 + v2))))
  else
    some (h, some (.int x2)) := by rfl
-- WhirlShafts$Line.reducesLike(LWhirlShafts$Line;)Z with (12, 24)
set_option maxRecDepth 20000 in
theorem b33_0 (X : q_X) (O : q_O) (n : Nat) (h : q_S)  : q_go e_33 X O (n + 1) 0 [(0, .ref 12), (1, .ref 24)] [] h =
  if (h.1 12 6) = (h.1 24 6) then
    q_go e_33 X O n 15 [(0, .ref 12), (1, .ref 24), (2, .int 0)] [] h
  else
    some (h, some (.int 0)) := by rfl
set_option maxRecDepth 20000 in
theorem b33_15 (X : q_X) (O : q_O) (n : Nat) (h : q_S) (x2 : Int32) : q_go e_33 X O (n + 1) 15 [(0, .ref 12), (1, .ref 24), (2, .int x2)] [] h =
  if x2 < (h.1 12 6) then
    q_c1 (O 29 h [.ref 12, .int x2]) (fun h1 v2 =>
    q_c1 (O 29 h1 [.ref 24, .int x2]) (fun h3 v4 =>
    if v2 = v4 then
      q_c1 (O 30 h3 [.ref 12, .int x2]) (fun h5 v6 =>
      q_c1 (O 30 h5 [.ref 24, .int x2]) (fun h7 v8 =>
      if v6 = v8 then
        if x2 < ((h7.1 12 6) - 1) then
          q_c1 (O 31 h7 [.ref 12, .int x2]) (fun h9 v10 =>
          q_c1 (O 31 h9 [.ref 24, .int x2]) (fun h11 v12 =>
          if v10 = v12 then
            q_go e_33 X O n 15 [(0, .ref 12), (1, .ref 24), (2, .int (x2 + 1))] [] h11
          else
            some (h11, some (.int 0))))
        else
          q_go e_33 X O n 15 [(0, .ref 12), (1, .ref 24), (2, .int (x2 + 1))] [] h7
      else
        some (h7, some (.int 0))))
    else
      some (h3, some (.int 0))))
  else
    some (h, some (.int 1)) := by rfl
-- WhirlShafts$Orders.add(III)I with (30, None, None, None)
set_option maxRecDepth 20000 in
theorem b34_0 (X : q_X) (O : q_O) (n : Nat) (h : q_S) (x1 : Int32) (x2 : Int32) (x3 : Int32) : q_go e_34 X O (n + 1) 0 [(0, .ref 30), (1, .int x1), (2, .int x2), (3, .int x3)] [] h =
  q_ix (h.1 30 3) 8 (fun j1 =>
  q_ix (h.1 30 3) 8 (fun j2 =>
  q_ix (h.1 30 3) 8 (fun j3 =>
  some ((q_si (q_si (q_si (q_si h 31 j1 x1) 32 j2 x2) 33 j3 x3) 30 3 ((h.1 30 3) + 1)), some (.int ((h.1 30 3) + 1)))))) := by rfl
-- WhirlShafts$Orders.takeFrom(LWhirlShafts$Orders;)V with (30, 34)
set_option maxRecDepth 20000 in
theorem b35_0 (X : q_X) (O : q_O) (n : Nat) (h : q_S)  : q_go e_35 X O (n + 1) 0 [(0, .ref 30), (1, .ref 34)] [] h =
  q_arc (q_si h 30 3 (h.1 34 3)) 35 0 31 0 8 (fun h1 =>
  q_arc h1 36 0 32 0 8 (fun h2 =>
  q_arc h2 37 0 33 0 8 (fun h3 =>
  some (h3, none)))) := by rfl
-- WhirlShafts$Orders.takeFrom(LWhirlShafts$Orders;)V with (34, 30)
set_option maxRecDepth 20000 in
theorem b35_0_1 (X : q_X) (O : q_O) (n : Nat) (h : q_S)  : q_go e_35 X O (n + 1) 0 [(0, .ref 34), (1, .ref 30)] [] h =
  q_arc (q_si h 34 3 (h.1 30 3)) 31 0 35 0 8 (fun h1 =>
  q_arc h1 32 0 36 0 8 (fun h2 =>
  q_arc h2 33 0 37 0 8 (fun h3 =>
  some (h3, none)))) := by rfl
-- WhirlShafts$Rates.take(LWhirlShafts$Line;)V with (43, 12)
set_option maxRecDepth 20000 in
theorem b36_0 (X : q_X) (O : q_O) (n : Nat) (h : q_S)  : q_go e_36 X O (n + 1) 0 [(0, .ref 43), (1, .ref 12)] [] h =
  q_go e_36 X O n 10 [(0, .ref 43), (1, .ref 12), (2, .int 0)] [] (q_si h 43 0 (h.1 12 6)) := by rfl
set_option maxRecDepth 20000 in
theorem b36_10 (X : q_X) (O : q_O) (n : Nat) (h : q_S) (x2 : Int32) : q_go e_36 X O (n + 1) 10 [(0, .ref 43), (1, .ref 12), (2, .int x2)] [] h =
  if x2 < (h.1 43 0) then
    q_c1 (O 29 h [.ref 12, .int x2]) (fun h1 v2 =>
    q_ix x2 8 (fun j3 =>
    q_c1 (O 32 (q_sl h1 44 j3 (((v2 : Int32)).toInt64)) [.ref 12, .int x2]) (fun h4 v5 =>
    q_ix x2 8 (fun j6 =>
    if x2 < ((h4.1 43 0) - 1) then
      q_c1 (O 31 (q_sl h4 45 j6 (((v5 : Int32)).toInt64)) [.ref 12, .int x2]) (fun h7 v8 =>
      q_ix x2 8 (fun j9 =>
      q_go e_36 X O n 10 [(0, .ref 43), (1, .ref 12), (2, .int (x2 + 1))] [] (q_sl h7 46 j9 (((v8 : Int32)).toInt64))))
    else
      q_ix x2 8 (fun j10 =>
      q_go e_36 X O n 10 [(0, .ref 43), (1, .ref 12), (2, .int (x2 + 1))] [] (q_sl (q_sl h4 45 j6 (((v5 : Int32)).toInt64)) 46 j10 (Int64.ofNat 0)))))))
  else
    some (h, none) := by rfl
-- WhirlShafts$Rates.take(LWhirlShafts$Line;)V with (43, 18)
set_option maxRecDepth 20000 in
theorem b36_0_1 (X : q_X) (O : q_O) (n : Nat) (h : q_S)  : q_go e_36 X O (n + 1) 0 [(0, .ref 43), (1, .ref 18)] [] h =
  q_go e_36 X O n 10 [(0, .ref 43), (1, .ref 18), (2, .int 0)] [] (q_si h 43 0 (h.1 18 6)) := by rfl
set_option maxRecDepth 20000 in
theorem b36_10_1 (X : q_X) (O : q_O) (n : Nat) (h : q_S) (x2 : Int32) : q_go e_36 X O (n + 1) 10 [(0, .ref 43), (1, .ref 18), (2, .int x2)] [] h =
  if x2 < (h.1 43 0) then
    q_c1 (O 29 h [.ref 18, .int x2]) (fun h1 v2 =>
    q_ix x2 8 (fun j3 =>
    q_c1 (O 32 (q_sl h1 44 j3 (((v2 : Int32)).toInt64)) [.ref 18, .int x2]) (fun h4 v5 =>
    q_ix x2 8 (fun j6 =>
    if x2 < ((h4.1 43 0) - 1) then
      q_c1 (O 31 (q_sl h4 45 j6 (((v5 : Int32)).toInt64)) [.ref 18, .int x2]) (fun h7 v8 =>
      q_ix x2 8 (fun j9 =>
      q_go e_36 X O n 10 [(0, .ref 43), (1, .ref 18), (2, .int (x2 + 1))] [] (q_sl h7 46 j9 (((v8 : Int32)).toInt64))))
    else
      q_ix x2 8 (fun j10 =>
      q_go e_36 X O n 10 [(0, .ref 43), (1, .ref 18), (2, .int (x2 + 1))] [] (q_sl (q_sl h4 45 j6 (((v5 : Int32)).toInt64)) 46 j10 (Int64.ofNat 0)))))))
  else
    some (h, none) := by rfl
-- WhirlShafts$Rates.belowAll(II)I with (43, None, None)
set_option maxRecDepth 20000 in
theorem b37_0 (X : q_X) (O : q_O) (n : Nat) (h : q_S) (x1 : Int32) (x2 : Int32) : q_go e_37 X O (n + 1) 0 [(0, .ref 43), (1, .int x1), (2, .int x2)] [] h =
  q_c1 (O 38 h [.ref 43, .int 0, .int ((h.1 43 0) - 1), .int x1, .int x2]) (fun h1 v2 =>
  some (h1, some (.int v2))) := by rfl
-- WhirlShafts$Rates.belowPart(IIII)I with (43, None, None, None, None)
set_option maxRecDepth 20000 in
theorem b38_0 (X : q_X) (O : q_O) (n : Nat) (h : q_S) (x1 : Int32) (x2 : Int32) (x3 : Int32) (x4 : Int32) : q_go e_38 X O (n + 1) 0 [(0, .ref 43), (1, .int x1), (2, .int x2), (3, .int x3), (4, .int x4)] [] h =
  q_ix 0 9 (fun j1 =>
  q_b (Nat.beq (q_ty (q_rf 47 j1)) 1) (q_ix 0 (q_ln (q_rf 47 j1)) (fun j2 =>
  q_go e_38 X O n 18 [(0, .ref 43), (1, .int x1), (2, .int x2), (3, .int x3), (4, .int x4), (5, .int 0), (6, .int 1), (7, .int x1)] [] (q_sl h (q_rf 47 j1) j2 (Int64.ofNat 1))))) := by rfl
set_option maxRecDepth 20000 in
theorem b38_18 (X : q_X) (O : q_O) (n : Nat) (h : q_S) (x1 : Int32) (x2 : Int32) (x3 : Int32) (x4 : Int32) (x5 : Int32) (x6 : Int32) (x7 : Int32) : q_go e_38 X O (n + 1) 18 [(0, .ref 43), (1, .int x1), (2, .int x2), (3, .int x3), (4, .int x4), (5, .int x5), (6, .int x6), (7, .int x7)] [] h =
  if x2 < x7 then
    some (h, some (.int x5))
  else
    q_ix x7 8 (fun j1 =>
    q_ix x7 8 (fun j2 =>
    if x1 < x7 then
      q_ix (x7 - 1) 8 (fun j3 =>
      q_go e_38 X O n 71 [(0, .ref 43), (1, .int x1), (2, .int x2), (3, .int x3), (4, .int x4), (5, .int x5), (6, .int x6), (7, .int x7), (8, .long ((((x4 : Int32)).toInt64 * (h.2.1 45 j1)) - (((x3 : Int32)).toInt64 * (h.2.1 44 j2))))] [.long (((x4 : Int32)).toInt64 * (h.2.1 46 j3))] h)
    else
      q_go e_38 X O n 71 [(0, .ref 43), (1, .int x1), (2, .int x2), (3, .int x3), (4, .int x4), (5, .int x5), (6, .int x6), (7, .int x7), (8, .long ((((x4 : Int32)).toInt64 * (h.2.1 45 j1)) - (((x3 : Int32)).toInt64 * (h.2.1 44 j2))))] [.long (Int64.ofNat 0)] h)) := by rfl
set_option maxRecDepth 20000 in
theorem b38_71 (X : q_X) (O : q_O) (n : Nat) (h : q_S) (x1 : Int32) (x2 : Int32) (x3 : Int32) (x4 : Int32) (x5 : Int32) (x6 : Int32) (x7 : Int32) (x8 : Int64) (s0 : Int64) : q_go e_38 X O (n + 1) 71 [(0, .ref 43), (1, .int x1), (2, .int x2), (3, .int x3), (4, .int x4), (5, .int x5), (6, .int x6), (7, .int x7), (8, .long x8)] [.long s0] h =
  q_c0 (O 39 h [.ref 43, .int (x7 - x1), .long x8, .long (s0 * s0)]) (fun h1 =>
  q_c1 (O 40 h1 [.ref 43, .int ((x7 - x1) + 1)]) (fun h2 v3 =>
  if v3 = (-x6) then
    q_go e_38 X O n 18 [(0, .ref 43), (1, .int x1), (2, .int x2), (3, .int x3), (4, .int x4), (5, .int (x5 + 1)), (6, .int v3), (7, .int (x7 + 1))] [] h2
  else
    q_go e_38 X O n 18 [(0, .ref 43), (1, .int x1), (2, .int x2), (3, .int x3), (4, .int x4), (5, .int x5), (6, .int x6), (7, .int (x7 + 1))] [] h2)) := by rfl
-- WhirlShafts$Rates.addRow(IJJ)V with (43, None, None, None)
set_option maxRecDepth 20000 in
theorem b39_0 (X : q_X) (O : q_O) (n : Nat) (h : q_S) (x1 : Int32) (x2 : Int64) (x3 : Int64) : q_go e_39 X O (n + 1) 0 [(0, .ref 43), (1, .int x1), (2, .long x2), (4, .long x3)] [] h =
  q_ix x1 9 (fun j1 =>
  if 0 < x1 then
    q_go e_39 X O n 23 [(0, .ref 43), (1, .int x1), (2, .long x2), (4, .long x3), (6, .ref (q_rf 47 j1))] [.int (x1 - 1), .ref 47] h
  else
    q_go e_39 X O n 23 [(0, .ref 43), (1, .int x1), (2, .long x2), (4, .long x3), (6, .ref (q_rf 47 j1))] [.int 0, .ref 47] h) := by rfl
set_option maxRecDepth 20000 in
theorem b39_23 (X : q_X) (O : q_O) (n : Nat) (h : q_S) (x1 : Int32) (x2 : Int64) (x4 : Int64) (x6 : Nat) (s0 : Int32) : q_go e_39 X O (n + 1) 23 [(0, .ref 43), (1, .int x1), (2, .long x2), (4, .long x4), (6, .ref x6)] [.int s0, .ref 47] h =
  q_ix s0 9 (fun j1 =>
  q_ix (x1 + 1) 9 (fun j2 =>
  q_go e_39 X O n 42 [(1, .int x1), (2, .long x2), (4, .long x4), (6, .ref x6), (7, .ref (q_rf 47 j1)), (8, .ref (q_rf 47 j2)), (9, .long (Int64.ofNat 0)), (11, .int 0)] [] h)) := by rfl
set_option maxRecDepth 20000 in
theorem b39_42 (X : q_X) (O : q_O) (n : Nat) (h : q_S) (x1 : Int32) (x2 : Int64) (x4 : Int64) (x6 : Nat) (x7 : Nat) (x8 : Nat) (x9 : Int64) (x11 : Int32) : q_go e_39 X O (n + 1) 42 [(1, .int x1), (2, .long x2), (4, .long x4), (6, .ref x6), (7, .ref x7), (8, .ref x8), (9, .long x9), (11, .int x11)] [] h =
  if x1 < x11 then
    q_b (Nat.beq (q_ty x8) 1) (q_ix (x1 + 1) (q_ln x8) (fun j1 =>
    some ((q_sl h x8 j1 x9), none)))
  else
    q_b (Nat.beq (q_ty x6) 1) (q_ix x11 (q_ln x6) (fun j2 =>
    q_b (Nat.beq (q_ty x7) 1) (q_ix x11 (q_ln x7) (fun j3 =>
    q_b (Nat.beq (q_ty x8) 1) (q_ix x11 (q_ln x8) (fun j4 =>
    q_go e_39 X O n 42 [(1, .int x1), (2, .long x2), (4, .long x4), (6, .ref x6), (7, .ref x7), (8, .ref x8), (9, .long (((x9 + (x2 * (h.2.1 x6 j2))) - (x4 * (h.2.1 x7 j3))) >>> (((30 : Int32)).toInt64 &&& 63))), (11, .int (x11 + 1))] [] (q_sl h x8 j4 (((x9 + (x2 * (h.2.1 x6 j2))) - (x4 * (h.2.1 x7 j3))) &&& (Int64.ofNat 1073741823))))))))) := by rfl
-- WhirlShafts$Rates.signOfRow(I)I with (43, None)
set_option maxRecDepth 20000 in
theorem b40_0 (X : q_X) (O : q_O) (n : Nat) (h : q_S) (x1 : Int32) : q_go e_40 X O (n + 1) 0 [(0, .ref 43), (1, .int x1)] [] h =
  q_ix x1 9 (fun j1 =>
  q_b (Nat.beq (q_ty (q_rf 47 j1)) 1) (q_ix x1 (q_ln (q_rf 47 j1)) (fun j2 =>
  if (lg_cmp (h.2.1 (q_rf 47 j1) j2) (Int64.ofNat 0)) < 0 then
    some (h, some (.int (-1)))
  else
    q_go e_40 X O n 19 [(1, .int x1), (2, .ref (q_rf 47 j1)), (3, .int 0)] [] h))) := by rfl
set_option maxRecDepth 20000 in
theorem b40_19 (X : q_X) (O : q_O) (n : Nat) (h : q_S) (x1 : Int32) (x2 : Nat) (x3 : Int32) : q_go e_40 X O (n + 1) 19 [(1, .int x1), (2, .ref x2), (3, .int x3)] [] h =
  if x1 < x3 then
    some (h, some (.int 0))
  else
    q_b (Nat.beq (q_ty x2) 1) (q_ix x3 (q_ln x2) (fun j1 =>
    if (lg_cmp (h.2.1 x2 j1) (Int64.ofNat 0)) = 0 then
      q_go e_40 X O n 19 [(1, .int x1), (2, .ref x2), (3, .int (x3 + 1))] [] h
    else
      some (h, some (.int 1)))) := by rfl
-- WhirlShafts$Rates.restOfRow(I)I with (43, None)
set_option maxRecDepth 20000 in
theorem b41_0 (X : q_X) (O : q_O) (n : Nat) (h : q_S) (x1 : Int32) : q_go e_41 X O (n + 1) 0 [(0, .ref 43), (1, .int x1)] [] h =
  q_go e_41 X O n 5 [(0, .ref 43), (1, .int x1), (2, .long (Int64.ofNat 0)), (4, .int x1)] [] h := by rfl
set_option maxRecDepth 20000 in
theorem b41_5 (X : q_X) (O : q_O) (n : Nat) (h : q_S) (x1 : Int32) (x2 : Int64) (x4 : Int32) : q_go e_41 X O (n + 1) 5 [(0, .ref 43), (1, .int x1), (2, .long x2), (4, .int x4)] [] h =
  if x4 < 0 then
    some (h, some (.int (((x2 : Int64)).toInt32)))
  else
    q_ix x1 9 (fun j1 =>
    q_b (Nat.beq (q_ty (q_rf 47 j1)) 1) (q_ix x4 (q_ln (q_rf 47 j1)) (fun j2 =>
    q_c3 (O 209 h [.long ((x2 <<< (((30 : Int32)).toInt64 &&& 63)) + (h.2.1 (q_rf 47 j1) j2)), .long (Int64.ofNat 10007)]) (fun h3 v4 =>
    q_go e_41 X O n 5 [(0, .ref 43), (1, .int x1), (2, .long v4), (4, .int (x4 + (-1)))] [] h3)))) := by rfl
-- WhirlShafts$Rates.highest()I with (43,)
set_option maxRecDepth 20000 in
theorem b42_0 (X : q_X) (O : q_O) (n : Nat) (h : q_S)  : q_go e_42 X O (n + 1) 0 [(0, .ref 43)] [] h =
  if (h.1 43 0) = 0 then
    some (h, some (.int 0))
  else
    q_go e_42 X O n 13 [(0, .ref 43), (1, .long (Int64.ofNat 0)), (3, .int 0)] [] h := by rfl
set_option maxRecDepth 20000 in
theorem b42_13 (X : q_X) (O : q_O) (n : Nat) (h : q_S) (x1 : Int64) (x3 : Int32) : q_go e_42 X O (n + 1) 13 [(0, .ref 43), (1, .long x1), (3, .int x3)] [] h =
  if x3 < (h.1 43 0) then
    q_ix x3 8 (fun j1 =>
    if 0 < (lg_cmp (h.2.1 44 j1) (Int64.ofNat 0)) then
      q_ix x3 8 (fun j2 =>
      q_ix x3 8 (fun j3 =>
      if (h.2.1 44 j3) = 0 then none else
      q_c3 (O 210 h [.long x1, .long (((Int64.ofNat 2) * (h.2.1 45 j2)) / (h.2.1 44 j3))]) (fun h4 v5 =>
      q_go e_42 X O n 13 [(0, .ref 43), (1, .long v5), (3, .int (x3 + 1))] [] h4)))
    else
      q_go e_42 X O n 13 [(0, .ref 43), (1, .long x1), (3, .int (x3 + 1))] [] h)
  else
    some (h, some (.int (((((Int64.ofNat 1) + x1) : Int64)).toInt32))) := by rfl
-- WhirlShafts$Rates.fenceOf(II)I with (43, None, None)
set_option maxRecDepth 20000 in
theorem b43_0 (X : q_X) (O : q_O) (n : Nat) (h : q_S) (x1 : Int32) (x2 : Int32) : q_go e_43 X O (n + 1) 0 [(0, .ref 43), (1, .int x1), (2, .int x2)] [] h =
  q_c1 (O 42 h [.ref 43]) (fun h1 v2 =>
  q_go e_43 X O n 15 [(0, .ref 43), (1, .int x1), (2, .int x2), (3, .int (v2 * x2)), (4, .int 0), (5, .int 8192)] [] h1) := by rfl
set_option maxRecDepth 20000 in
theorem b43_15 (X : q_X) (O : q_O) (n : Nat) (h : q_S) (x1 : Int32) (x2 : Int32) (x3 : Int32) (x4 : Int32) (x5 : Int32) : q_go e_43 X O (n + 1) 15 [(0, .ref 43), (1, .int x1), (2, .int x2), (3, .int x3), (4, .int x4), (5, .int x5)] [] h =
  if 0 < x5 then
    if x3 < (x4 + x5) then
      q_go e_43 X O n 15 [(0, .ref 43), (1, .int x1), (2, .int x2), (3, .int x3), (4, .int x4), (5, .int (x5 >>> (1 &&& 31)))] [] h
    else
      q_c1 (O 37 h [.ref 43, .int (x4 + x5), .int x2]) (fun h1 v2 =>
      if x1 < v2 then
        q_go e_43 X O n 15 [(0, .ref 43), (1, .int x1), (2, .int x2), (3, .int x3), (4, .int x4), (5, .int (x5 >>> (1 &&& 31)))] [] h1
      else
        q_go e_43 X O n 15 [(0, .ref 43), (1, .int x1), (2, .int x2), (3, .int x3), (4, .int (x4 + x5)), (5, .int (x5 >>> (1 &&& 31)))] [] h1)
  else
    some (h, some (.int x4)) := by rfl
-- WhirlShafts$Rates.fenceIs(IIJ)Z with (43, None, None, None)
set_option maxRecDepth 20000 in
theorem b44_0 (X : q_X) (O : q_O) (n : Nat) (h : q_S) (x1 : Int32) (x2 : Int32) (x3 : Int64) : q_go e_44 X O (n + 1) 0 [(0, .ref 43), (1, .int x1), (2, .int x2), (3, .long x3)] [] h =
  if (lg_cmp x3 (Int64.ofNat 0)) < 0 then
    some (h, some (.int 0))
  else
    if 0 < (lg_cmp x3 (Int64.ofNat 9999)) then
      some (h, some (.int 0))
    else
      q_c1 (O 37 h [.ref 43, .int (((x3 : Int64)).toInt32), .int x2]) (fun h1 v2 =>
      if x1 < v2 then
        some (h1, some (.int 0))
      else
        q_c1 (O 37 h1 [.ref 43, .int (((x3 : Int64)).toInt32 + 1), .int x2]) (fun h3 v4 =>
        if x1 < v4 then
          some (h3, some (.int 1))
        else
          some (h3, some (.int 0)))) := by rfl
-- WhirlShafts$Rates.between(III)I with (43, None, None, None)
set_option maxRecDepth 20000 in
theorem b45_0 (X : q_X) (O : q_O) (n : Nat) (h : q_S) (x1 : Int32) (x2 : Int32) (x3 : Int32) : q_go e_45 X O (n + 1) 0 [(0, .ref 43), (1, .int x1), (2, .int x2), (3, .int x3)] [] h =
  q_c1 (O 37 h [.ref 43, .int x2, .int x3]) (fun h1 v2 =>
  q_c1 (O 37 h1 [.ref 43, .int x1, .int x3]) (fun h3 v4 =>
  some (h3, some (.int (v2 - v4))))) := by rfl
-- WhirlShafts$Rim.weighs(II)I with (3, None, None)
set_option maxRecDepth 20000 in
theorem b46_0 (X : q_X) (O : q_O) (n : Nat) (h : q_S) (x1 : Int32) (x2 : Int32) : q_go e_46 X O (n + 1) 0 [(0, .ref 3), (1, .int x1), (2, .int x2)] [] h =
  some (h, some (.int (x1 * 2))) := by rfl
-- WhirlShafts$Rim.weighs(II)I with (5, None, None)
set_option maxRecDepth 20000 in
theorem b46_0_1 (X : q_X) (O : q_O) (n : Nat) (h : q_S) (x1 : Int32) (x2 : Int32) : q_go e_46 X O (n + 1) 0 [(0, .ref 5), (1, .int x1), (2, .int x2)] [] h =
  some (h, some (.int (x1 * 2))) := by rfl
-- WhirlShafts$Rim.swings(I)I with (3, None)
set_option maxRecDepth 20000 in
theorem b47_0 (X : q_X) (O : q_O) (n : Nat) (h : q_S) (x1 : Int32) : q_go e_47 X O (n + 1) 0 [(0, .ref 3), (1, .int x1)] [] h =
  q_c0 (O 9 h [.ref 3, .int 20]) (fun h1 =>
  q_c1 (O 12 h1 [.ref 3, .int x1]) (fun h2 v3 =>
  some (h2, some (.int (v3 ^^^ 3))))) := by rfl
-- WhirlShafts$Rim.swings(I)I with (5, None)
set_option maxRecDepth 20000 in
theorem b47_0_1 (X : q_X) (O : q_O) (n : Nat) (h : q_S) (x1 : Int32) : q_go e_47 X O (n + 1) 0 [(0, .ref 5), (1, .int x1)] [] h =
  q_c0 (O 9 h [.ref 5, .int 20]) (fun h1 =>
  q_c1 (O 12 h1 [.ref 5, .int x1]) (fun h2 v3 =>
  some (h2, some (.int (v3 ^^^ 3))))) := by rfl
-- WhirlShafts$Row.isMissing()Z with (61,)
set_option maxRecDepth 20000 in
theorem b48_0 (X : q_X) (O : q_O) (n : Nat) (h : q_S)  : q_go e_48 X O (n + 1) 0 [(0, .ref 61)] [] h =
  if (h.1 61 1) = (-1) then
    some (h, some (.int 1))
  else
    some (h, some (.int 0)) := by rfl
-- WhirlShafts$Row.isMissing()Z with (62,)
set_option maxRecDepth 20000 in
theorem b48_0_1 (X : q_X) (O : q_O) (n : Nat) (h : q_S)  : q_go e_48 X O (n + 1) 0 [(0, .ref 62)] [] h =
  if (h.1 62 1) = (-1) then
    some (h, some (.int 1))
  else
    some (h, some (.int 0)) := by rfl
-- WhirlShafts$Row.isMissing()Z with (63,)
set_option maxRecDepth 20000 in
theorem b48_0_2 (X : q_X) (O : q_O) (n : Nat) (h : q_S)  : q_go e_48 X O (n + 1) 0 [(0, .ref 63)] [] h =
  if (h.1 63 1) = (-1) then
    some (h, some (.int 1))
  else
    some (h, some (.int 0)) := by rfl
-- WhirlShafts$Row.become(II)V with (61, None, None)
set_option maxRecDepth 20000 in
theorem b49_0 (X : q_X) (O : q_O) (n : Nat) (h : q_S) (x1 : Int32) (x2 : Int32) : q_go e_49 X O (n + 1) 0 [(0, .ref 61), (1, .int x1), (2, .int x2)] [] h =
  q_go e_49 X O n 12 [(0, .ref 61), (3, .int 0)] [] (q_si (q_si h 61 1 x1) 61 2 x2) := by rfl
set_option maxRecDepth 20000 in
theorem b49_12 (X : q_X) (O : q_O) (n : Nat) (h : q_S) (x3 : Int32) : q_go e_49 X O (n + 1) 12 [(0, .ref 61), (3, .int x3)] [] h =
  if x3 < 40 then
    q_ix x3 40 (fun j1 =>
    q_go e_49 X O n 12 [(0, .ref 61), (3, .int (x3 + 1))] [] (q_sl h 64 j1 (Int64.ofNat 0)))
  else
    some (h, none) := by rfl
-- WhirlShafts$Row.become(II)V with (62, None, None)
set_option maxRecDepth 20000 in
theorem b49_0_1 (X : q_X) (O : q_O) (n : Nat) (h : q_S) (x1 : Int32) (x2 : Int32) : q_go e_49 X O (n + 1) 0 [(0, .ref 62), (1, .int x1), (2, .int x2)] [] h =
  q_go e_49 X O n 12 [(0, .ref 62), (3, .int 0)] [] (q_si (q_si h 62 1 x1) 62 2 x2) := by rfl
set_option maxRecDepth 20000 in
theorem b49_12_1 (X : q_X) (O : q_O) (n : Nat) (h : q_S) (x3 : Int32) : q_go e_49 X O (n + 1) 12 [(0, .ref 62), (3, .int x3)] [] h =
  if x3 < 40 then
    q_ix x3 40 (fun j1 =>
    q_go e_49 X O n 12 [(0, .ref 62), (3, .int (x3 + 1))] [] (q_sl h 65 j1 (Int64.ofNat 0)))
  else
    some (h, none) := by rfl
-- WhirlShafts$Row.become(II)V with (63, None, None)
set_option maxRecDepth 20000 in
theorem b49_0_2 (X : q_X) (O : q_O) (n : Nat) (h : q_S) (x1 : Int32) (x2 : Int32) : q_go e_49 X O (n + 1) 0 [(0, .ref 63), (1, .int x1), (2, .int x2)] [] h =
  q_go e_49 X O n 12 [(0, .ref 63), (3, .int 0)] [] (q_si (q_si h 63 1 x1) 63 2 x2) := by rfl
set_option maxRecDepth 20000 in
theorem b49_12_2 (X : q_X) (O : q_O) (n : Nat) (h : q_S) (x3 : Int32) : q_go e_49 X O (n + 1) 12 [(0, .ref 63), (3, .int x3)] [] h =
  if x3 < 40 then
    q_ix x3 40 (fun j1 =>
    q_go e_49 X O n 12 [(0, .ref 63), (3, .int (x3 + 1))] [] (q_sl h 66 j1 (Int64.ofNat 0)))
  else
    some (h, none) := by rfl
-- WhirlShafts$Row.hasPlace(I)Z with (61, None)
set_option maxRecDepth 20000 in
theorem b50_0 (X : q_X) (O : q_O) (n : Nat) (h : q_S) (x1 : Int32) : q_go e_50 X O (n + 1) 0 [(0, .ref 61), (1, .int x1)] [] h =
  if x1 < 0 then
    some (h, some (.int 0))
  else
    if x1 < (h.1 61 2) then
      some (h, some (.int 1))
    else
      some (h, some (.int 0)) := by rfl
-- WhirlShafts$Row.hasPlace(I)Z with (62, None)
set_option maxRecDepth 20000 in
theorem b50_0_1 (X : q_X) (O : q_O) (n : Nat) (h : q_S) (x1 : Int32) : q_go e_50 X O (n + 1) 0 [(0, .ref 62), (1, .int x1)] [] h =
  if x1 < 0 then
    some (h, some (.int 0))
  else
    if x1 < (h.1 62 2) then
      some (h, some (.int 1))
    else
      some (h, some (.int 0)) := by rfl
-- WhirlShafts$Row.hasPlace(I)Z with (63, None)
set_option maxRecDepth 20000 in
theorem b50_0_2 (X : q_X) (O : q_O) (n : Nat) (h : q_S) (x1 : Int32) : q_go e_50 X O (n + 1) 0 [(0, .ref 63), (1, .int x1)] [] h =
  if x1 < 0 then
    some (h, some (.int 0))
  else
    if x1 < (h.1 63 2) then
      some (h, some (.int 1))
    else
      some (h, some (.int 0)) := by rfl
-- WhirlShafts$Row.hasSpan(II)Z with (61, None, None)
set_option maxRecDepth 20000 in
theorem b51_0 (X : q_X) (O : q_O) (n : Nat) (h : q_S) (x1 : Int32) (x2 : Int32) : q_go e_51 X O (n + 1) 0 [(0, .ref 61), (1, .int x1), (2, .int x2)] [] h =
  if x2 < 0 then
    some (h, some (.int 0))
  else
    if x1 < 0 then
      some (h, some (.int 0))
    else
      if (h.1 61 2) < x2 then
        some (h, some (.int 0))
      else
        if ((h.1 61 2) - x2) < x1 then
          some (h, some (.int 0))
        else
          some (h, some (.int 1)) := by rfl
-- WhirlShafts$Row.hasSpan(II)Z with (62, None, None)
set_option maxRecDepth 20000 in
theorem b51_0_1 (X : q_X) (O : q_O) (n : Nat) (h : q_S) (x1 : Int32) (x2 : Int32) : q_go e_51 X O (n + 1) 0 [(0, .ref 62), (1, .int x1), (2, .int x2)] [] h =
  if x2 < 0 then
    some (h, some (.int 0))
  else
    if x1 < 0 then
      some (h, some (.int 0))
    else
      if (h.1 62 2) < x2 then
        some (h, some (.int 0))
      else
        if ((h.1 62 2) - x2) < x1 then
          some (h, some (.int 0))
        else
          some (h, some (.int 1)) := by rfl
-- WhirlShafts$Row.hasSpan(II)Z with (63, None, None)
set_option maxRecDepth 20000 in
theorem b51_0_2 (X : q_X) (O : q_O) (n : Nat) (h : q_S) (x1 : Int32) (x2 : Int32) : q_go e_51 X O (n + 1) 0 [(0, .ref 63), (1, .int x1), (2, .int x2)] [] h =
  if x2 < 0 then
    some (h, some (.int 0))
  else
    if x1 < 0 then
      some (h, some (.int 0))
    else
      if (h.1 63 2) < x2 then
        some (h, some (.int 0))
      else
        if ((h.1 63 2) - x2) < x1 then
          some (h, some (.int 0))
        else
          some (h, some (.int 1)) := by rfl
-- WhirlShafts$Row.store(IJ)V with (61, None, None)
set_option maxRecDepth 20000 in
theorem b52_0 (X : q_X) (O : q_O) (n : Nat) (h : q_S) (x1 : Int32) (x2 : Int64) : q_go e_52 X O (n + 1) 0 [(0, .ref 61), (1, .int x1), (2, .long x2)] [] h =
  if (h.1 61 1) = 0 then
    q_ix x1 40 (fun j1 =>
    some ((q_sl h 64 j1 (((((((x2 : Int64)).toInt32 : Int32)).toInt8.toInt32 : Int32)).toInt64)), none))
  else
    if (h.1 61 1) = 1 then
      q_ix x1 40 (fun j2 =>
      some ((q_sl h 64 j2 (((((x2 : Int64)).toInt32 : Int32)).toInt64)), none))
    else
      q_ix x1 40 (fun j3 =>
      some ((q_sl h 64 j3 x2), none)) := by rfl
-- WhirlShafts$Row.store(IJ)V with (62, None, None)
set_option maxRecDepth 20000 in
theorem b52_0_1 (X : q_X) (O : q_O) (n : Nat) (h : q_S) (x1 : Int32) (x2 : Int64) : q_go e_52 X O (n + 1) 0 [(0, .ref 62), (1, .int x1), (2, .long x2)] [] h =
  if (h.1 62 1) = 0 then
    q_ix x1 40 (fun j1 =>
    some ((q_sl h 65 j1 (((((((x2 : Int64)).toInt32 : Int32)).toInt8.toInt32 : Int32)).toInt64)), none))
  else
    if (h.1 62 1) = 1 then
      q_ix x1 40 (fun j2 =>
      some ((q_sl h 65 j2 (((((x2 : Int64)).toInt32 : Int32)).toInt64)), none))
    else
      q_ix x1 40 (fun j3 =>
      some ((q_sl h 65 j3 x2), none)) := by rfl
-- WhirlShafts$Row.store(IJ)V with (63, None, None)
set_option maxRecDepth 20000 in
theorem b52_0_2 (X : q_X) (O : q_O) (n : Nat) (h : q_S) (x1 : Int32) (x2 : Int64) : q_go e_52 X O (n + 1) 0 [(0, .ref 63), (1, .int x1), (2, .long x2)] [] h =
  if (h.1 63 1) = 0 then
    q_ix x1 40 (fun j1 =>
    some ((q_sl h 66 j1 (((((((x2 : Int64)).toInt32 : Int32)).toInt8.toInt32 : Int32)).toInt64)), none))
  else
    if (h.1 63 1) = 1 then
      q_ix x1 40 (fun j2 =>
      some ((q_sl h 66 j2 (((((x2 : Int64)).toInt32 : Int32)).toInt64)), none))
    else
      q_ix x1 40 (fun j3 =>
      some ((q_sl h 66 j3 x2), none)) := by rfl
-- WhirlShafts$Shell.weighs(II)I with (6, None, None)
set_option maxRecDepth 20000 in
theorem b53_0 (X : q_X) (O : q_O) (n : Nat) (h : q_S) (x1 : Int32) (x2 : Int32) : q_go e_53 X O (n + 1) 0 [(0, .ref 6), (1, .int x1), (2, .int x2)] [] h =
  q_c1 (O 14 h [.ref 6, .int x1, .int x2]) (fun h1 v2 =>
  if 2 = 0 then none else
  q_c1 (O 208 h1 [.int 1, .int (v2 - (x2 / 2))]) (fun h3 v4 =>
  some (h3, some (.int v4)))) := by rfl
-- WhirlShafts$Shell.swings(I)I with (6, None)
set_option maxRecDepth 20000 in
theorem b54_0 (X : q_X) (O : q_O) (n : Nat) (h : q_S) (x1 : Int32) : q_go e_54 X O (n + 1) 0 [(0, .ref 6), (1, .int x1)] [] h =
  q_c0 (O 9 h [.ref 6, .int 50]) (fun h1 =>
  q_c1 (O 12 h1 [.ref 6, .int x1]) (fun h2 v3 =>
  q_c1 (O 15 h2 [.ref 6, .int 2]) (fun h4 v5 =>
  some (h4, some (.int (v3 + v5)))))) := by rfl
-- WhirlShafts$Tape.add(I)I with (57, None)
set_option maxRecDepth 20000 in
theorem b55_0 (X : q_X) (O : q_O) (n : Nat) (h : q_S) (x1 : Int32) : q_go e_55 X O (n + 1) 0 [(0, .ref 57), (1, .int x1)] [] h =
  q_ix (h.1 57 1) 80 (fun j1 =>
  some ((q_si (q_si h 58 j1 x1) 57 1 ((h.1 57 1) + 1)), some (.int ((h.1 57 1) + 1)))) := by rfl
-- WhirlShafts$Tape.numbersBehind(I)I with (None,)
set_option maxRecDepth 20000 in
theorem b56_0 (X : q_X) (O : q_O) (n : Nat) (h : q_S) (x0 : Int32) : q_go e_56 X O (n + 1) 0 [(0, .int x0)] [] h =
  if x0 = 98 then
    some (h, some (.int 2))
  else if x0 = 99 then
    some (h, some (.int (-1)))
  else if x0 = 100 then
    some (h, some (.int 3))
  else if x0 = 101 then
    some (h, some (.int (-1)))
  else if x0 = 102 then
    some (h, some (.int (-1)))
  else if x0 = 103 then
    some (h, some (.int 2))
  else if x0 = 104 then
    some (h, some (.int (-1)))
  else if x0 = 105 then
    some (h, some (.int 2))
  else if x0 = 106 then
    some (h, some (.int (-1)))
  else if x0 = 107 then
    some (h, some (.int 2))
  else if x0 = 108 then
    some (h, some (.int (-1)))
  else if x0 = 109 then
    some (h, some (.int (-1)))
  else if x0 = 110 then
    some (h, some (.int 1))
  else if x0 = 111 then
    some (h, some (.int (-1)))
  else if x0 = 112 then
    some (h, some (.int (-1)))
  else if x0 = 113 then
    some (h, some (.int (-1)))
  else if x0 = 114 then
    some (h, some (.int (-1)))
  else if x0 = 115 then
    some (h, some (.int (-1)))
  else if x0 = 116 then
    some (h, some (.int (-1)))
  else if x0 = 117 then
    some (h, some (.int (-1)))
  else if x0 = 118 then
    some (h, some (.int (-1)))
  else if x0 = 119 then
    some (h, some (.int 1))
  else if x0 = 120 then
    some (h, some (.int 0))
  else 
    some (h, some (.int (-1))) := by rfl
-- WhirlShafts$Tape.isFigure(I)Z with (None,)
set_option maxRecDepth 20000 in
theorem b57_0 (X : q_X) (O : q_O) (n : Nat) (h : q_S) (x0 : Int32) : q_go e_57 X O (n + 1) 0 [(0, .int x0)] [] h =
  if x0 < 48 then
    some (h, some (.int 0))
  else
    if 57 < x0 then
      some (h, some (.int 0))
    else
      some (h, some (.int 1)) := by rfl
-- WhirlShafts$Tape.fault()I with (57,)
set_option maxRecDepth 20000 in
theorem b58_0 (X : q_X) (O : q_O) (n : Nat) (h : q_S)  : q_go e_58 X O (n + 1) 0 [(0, .ref 57)] [] h =
  q_go e_58 X O n 6 [(0, .ref 57), (1, .int 0), (2, .int 0), (3, .int 0)] [] h := by rfl
set_option maxRecDepth 20000 in
theorem b58_6 (X : q_X) (O : q_O) (n : Nat) (h : q_S) (x1 : Int32) (x2 : Int32) (x3 : Int32) : q_go e_58 X O (n + 1) 6 [(0, .ref 57), (1, .int x1), (2, .int x2), (3, .int x3)] [] h =
  if x3 < (h.1 57 1) then
    q_ix x3 80 (fun j1 =>
    if x1 = 0 then
      q_c1 (O 56 h [.int (h.1 58 j1)]) (fun h2 v3 =>
      if v3 < 0 then
        some (h2, some (.int x3))
      else
        if v3 = 0 then
          q_go e_58 X O n 6 [(0, .ref 57), (1, .int 3), (2, .int v3), (3, .int (x3 + 1))] [] h2
        else
          q_go e_58 X O n 6 [(0, .ref 57), (1, .int 1), (2, .int v3), (3, .int (x3 + 1))] [] h2)
    else
      if x1 = 1 then
        q_c1 (O 57 h [.int (h.1 58 j1)]) (fun h4 v5 =>
        if v5 = 0 then
          some (h4, some (.int x3))
        else
          q_go e_58 X O n 6 [(0, .ref 57), (1, .int 2), (2, .int (x2 + (-1))), (3, .int (x3 + 1))] [] h4)
      else
        if x1 = 2 then
          q_c1 (O 57 h [.int (h.1 58 j1)]) (fun h6 v7 =>
          if v7 = 0 then
            q_go e_58 X O n 92 [(0, .ref 57), (2, .int x2), (3, .int x3), (4, .int (h.1 58 j1))] [] h6
          else
            q_go e_58 X O n 6 [(0, .ref 57), (1, .int 3), (2, .int x2), (3, .int (x3 + 1))] [] h6)
        else
          q_go e_58 X O n 92 [(0, .ref 57), (2, .int x2), (3, .int x3), (4, .int (h.1 58 j1))] [] h)
  else
    if x1 < 2 then
      if 0 = 0 then
        some (h, some (.int (h.1 57 1)))
      else
        some (h, some (.int (-1)))
    else
      if x2 = 0 then
        if 1 = 0 then
          some (h, some (.int (h.1 57 1)))
        else
          some (h, some (.int (-1)))
      else
        if 0 = 0 then
          some (h, some (.int (h.1 57 1)))
        else
          some (h, some (.int (-1))) := by rfl
set_option maxRecDepth 20000 in
theorem b58_92 (X : q_X) (O : q_O) (n : Nat) (h : q_S) (x2 : Int32) (x3 : Int32) (x4 : Int32) : q_go e_58 X O (n + 1) 92 [(0, .ref 57), (2, .int x2), (3, .int x3), (4, .int x4)] [] h =
  if 0 < x2 then
    if x4 = 44 then
      if 0 < x2 then
        q_go e_58 X O n 6 [(0, .ref 57), (1, .int 1), (2, .int x2), (3, .int (x3 + 1))] [] h
      else
        q_go e_58 X O n 6 [(0, .ref 57), (1, .int 0), (2, .int x2), (3, .int (x3 + 1))] [] h
    else
      some (h, some (.int x3))
  else
    if x4 = 59 then
      if 0 < x2 then
        q_go e_58 X O n 6 [(0, .ref 57), (1, .int 1), (2, .int x2), (3, .int (x3 + 1))] [] h
      else
        q_go e_58 X O n 6 [(0, .ref 57), (1, .int 0), (2, .int x2), (3, .int (x3 + 1))] [] h
    else
      some (h, some (.int x3)) := by rfl
-- WhirlShafts$Tape.nextAct()I with (57,)
set_option maxRecDepth 20000 in
theorem b59_0 (X : q_X) (O : q_O) (n : Nat) (h : q_S)  : q_go e_59 X O (n + 1) 0 [(0, .ref 57)] [] h =
  q_ix (h.1 57 2) 80 (fun j1 =>
  q_c1 (O 56 h [.int (h.1 58 j1)]) (fun h2 v3 =>
  q_go e_59 X O n 27 [(0, .ref 57), (1, .int (h.1 58 j1)), (2, .int v3), (3, .int 0)] [] (q_si h2 57 2 ((h2.1 57 2) + 1)))) := by rfl
set_option maxRecDepth 20000 in
theorem b59_27 (X : q_X) (O : q_O) (n : Nat) (h : q_S) (x1 : Int32) (x2 : Int32) (x3 : Int32) : q_go e_59 X O (n + 1) 27 [(0, .ref 57), (1, .int x1), (2, .int x2), (3, .int x3)] [] h =
  if x3 < x2 then
    if x3 < (Int32.ofNat 3) then
      q_c1 (O 60 h [.ref 57]) (fun h1 v2 =>
      q_ix x3 3 (fun j3 =>
      q_go e_59 X O n 27 [(0, .ref 57), (1, .int x1), (2, .int x2), (3, .int (x3 + 1))] [] (q_si h1 59 j3 v2)))
    else
      q_go e_59 X O n 57 [(0, .ref 57), (1, .int x1), (2, .int x2)] [] h
  else
    q_go e_59 X O n 57 [(0, .ref 57), (1, .int x1), (2, .int x2)] [] h := by rfl
set_option maxRecDepth 20000 in
theorem b59_57 (X : q_X) (O : q_O) (n : Nat) (h : q_S) (x1 : Int32) (x2 : Int32) : q_go e_59 X O (n + 1) 57 [(0, .ref 57), (1, .int x1), (2, .int x2)] [] h =
  if x2 = 0 then
    some ((q_si h 57 2 ((h.1 57 2) + 1)), some (.int x1))
  else
    some (h, some (.int x1)) := by rfl
-- WhirlShafts$Tape.nextNumber()I with (57,)
set_option maxRecDepth 20000 in
theorem b60_0 (X : q_X) (O : q_O) (n : Nat) (h : q_S)  : q_go e_60 X O (n + 1) 0 [(0, .ref 57)] [] h =
  q_go e_60 X O n 2 [(0, .ref 57), (1, .int 0)] [] h := by rfl
set_option maxRecDepth 20000 in
theorem b60_2 (X : q_X) (O : q_O) (n : Nat) (h : q_S) (x1 : Int32) : q_go e_60 X O (n + 1) 2 [(0, .ref 57), (1, .int x1)] [] h =
  if (h.1 57 2) < (h.1 57 1) then
    q_ix (h.1 57 2) 80 (fun j1 =>
    q_c1 (O 57 h [.int (h.1 58 j1)]) (fun h2 v3 =>
    if v3 = 0 then
      some ((q_si h2 57 2 ((h2.1 57 2) + 1)), some (.int x1))
    else
      q_ix (h2.1 57 2) 80 (fun j4 =>
      q_go e_60 X O n 2 [(0, .ref 57), (1, .int (((x1 * 10) + (h2.1 58 j4)) - 48))] [] (q_si h2 57 2 ((h2.1 57 2) + 1)))))
  else
    some ((q_si h 57 2 ((h.1 57 2) + 1)), some (.int x1)) := by rfl
-- WhirlShafts.disc(III)I with (0, None, None, None)
set_option maxRecDepth 20000 in
theorem b61_0 (X : q_X) (O : q_O) (n : Nat) (h : q_S) (x1 : Int32) (x2 : Int32) (x3 : Int32) : q_go e_61 X O (n + 1) 0 [(0, .ref 0), (1, .int x1), (2, .int x2), (3, .int x3)] [] h =
  q_c1 (O 104 h [.int x1]) (fun h1 v2 =>
  if v2 = 0 then
    some (h1, some (.int (-1)))
  else
    q_c1 (O 105 h1 [.int 0, .int x2]) (fun h3 v4 =>
    if v4 = 0 then
      some (h3, some (.int (-1)))
    else
      if 0 < (h3.1 12 6) then
        q_c1 (O 105 h3 [.int 1, .int x3]) (fun h5 v6 =>
        if v6 = 0 then
          some (h5, some (.int (-1)))
        else
          q_go e_61 X O n 37 [(0, .ref 0), (1, .int x1), (2, .int x2), (3, .int x3)] [] h5)
      else
        q_go e_61 X O n 37 [(0, .ref 0), (1, .int x1), (2, .int x2), (3, .int x3)] [] h3)) := by rfl
set_option maxRecDepth 20000 in
theorem b61_37 (X : q_X) (O : q_O) (n : Nat) (h : q_S) (x1 : Int32) (x2 : Int32) (x3 : Int32) : q_go e_61 X O (n + 1) 37 [(0, .ref 0), (1, .int x1), (2, .int x2), (3, .int x3)] [] h =
  if (h.1 12 6) < 8 then
    q_c0 (O 0 h [.ref 38]) (fun h1 =>
    q_c1 (O 17 h1 [.ref 12, .int x1, .int x2, .int x3]) (fun h2 v3 =>
    some (h2, some (.int v3))))
  else
    some (h, some (.int (-3))) := by rfl
-- WhirlShafts.cut()I with (0,)
set_option maxRecDepth 20000 in
theorem b62_0 (X : q_X) (O : q_O) (n : Nat) (h : q_S)  : q_go e_62 X O (n + 1) 0 [(0, .ref 0)] [] h =
  if (h.1 12 6) = 0 then
    some (h, some (.int (-5)))
  else
    q_c0 (O 0 h [.ref 38]) (fun h1 =>
    some ((q_si h1 12 6 ((h1.1 12 6) - 1)), some (.int ((h1.1 12 6) - 1)))) := by rfl
-- WhirlShafts.clear()I with (0,)
set_option maxRecDepth 20000 in
theorem b63_0 (X : q_X) (O : q_O) (n : Nat) (h : q_S)  : q_go e_63 X O (n + 1) 0 [(0, .ref 0)] [] h =
  q_c0 (O 0 h [.ref 38]) (fun h1 =>
  some ((q_si (q_si (q_si h1 12 6 0) 12 7 0) 12 8 0), some (.int (h.1 12 6)))) := by rfl
-- WhirlShafts.set(III)I with (0, None, None, None)
set_option maxRecDepth 20000 in
theorem b64_0 (X : q_X) (O : q_O) (n : Nat) (h : q_S) (x1 : Int32) (x2 : Int32) (x3 : Int32) : q_go e_64 X O (n + 1) 0 [(0, .ref 0), (1, .int x1), (2, .int x2), (3, .int x3)] [] h =
  q_c1 (O 22 h [.ref 12, .int x1, .int x2, .int x3]) (fun h1 v2 =>
  if v2 = 0 then
    q_c1 (O 23 h1 [.ref 12, .int x1, .int x2]) (fun h3 v4 =>
    if v4 = x3 then
      some (h3, some (.int v4))
    else
      q_c0 (O 24 h3 [.ref 12, .int x1, .int x2, .int x3]) (fun h5 =>
      q_c0 (O 1 h5 [.ref 38, .int x1, .int x2, .int v4, .int x3]) (fun h6 =>
      some (h6, some (.int v4)))))
  else
    some (h1, some (.int v2))) := by rfl
-- WhirlShafts.of(II)I with (0, None, None)
set_option maxRecDepth 20000 in
theorem b65_0 (X : q_X) (O : q_O) (n : Nat) (h : q_S) (x1 : Int32) (x2 : Int32) : q_go e_65 X O (n + 1) 0 [(0, .ref 0), (1, .int x1), (2, .int x2)] [] h =
  if 5 < x1 then
    if x1 = 12 then
      q_c1 (O 20 h [.ref 12, .int x2]) (fun h1 v2 =>
      if v2 = 0 then
        some (h1, some (.int (-1)))
      else
        q_c1 (O 31 h1 [.ref 12, .int x2]) (fun h3 v4 =>
        some (h3, some (.int v4))))
    else
      q_c1 (O 19 h [.ref 12, .int x2]) (fun h5 v6 =>
      if v6 = 0 then
        some (h5, some (.int (-1)))
      else
        if x1 = 6 then
          q_ix x2 8 (fun j7 =>
          some (h5, some (.int (h5.1 13 j7))))
        else if x1 = 7 then
          q_c1 (O 28 h5 [.ref 12, .int x2]) (fun h8 v9 =>
          some (h8, some (.int v9)))
        else if x1 = 8 then
          q_c1 (O 29 h5 [.ref 12, .int x2]) (fun h10 v11 =>
          some (h10, some (.int v11)))
        else if x1 = 9 then
          q_c1 (O 30 h5 [.ref 12, .int x2]) (fun h12 v13 =>
          some (h12, some (.int v13)))
        else if x1 = 10 then
          q_c1 (O 27 h5 [.ref 12, .int x2]) (fun h14 v15 =>
          some (h14, some (.int v15)))
        else if x1 = 11 then
          q_c1 (O 32 h5 [.ref 12, .int x2]) (fun h16 v17 =>
          some (h16, some (.int v17)))
        else 
          some (h5, some (.int (-1))))
  else
    q_c1 (O 21 h [.ref 12, .int x1, .int x2]) (fun h18 v19 =>
    if v19 = 0 then
      some (h18, some (.int (-1)))
    else
      q_c1 (O 23 h18 [.ref 12, .int x1, .int x2]) (fun h20 v21 =>
      some (h20, some (.int v21)))) := by rfl
-- WhirlShafts.below(II)I with (0, None, None)
set_option maxRecDepth 20000 in
theorem b66_0 (X : q_X) (O : q_O) (n : Nat) (h : q_S) (x1 : Int32) (x2 : Int32) : q_go e_66 X O (n + 1) 0 [(0, .ref 0), (1, .int x1), (2, .int x2)] [] h =
  q_c1 (O 107 h [.int x1, .int x2]) (fun h1 v2 =>
  if v2 = 0 then
    some (h1, some (.int (-1)))
  else
    q_c0 (O 36 h1 [.ref 43, .ref 12]) (fun h3 =>
    q_c1 (O 37 h3 [.ref 43, .int x1, .int x2]) (fun h4 v5 =>
    some (h4, some (.int v5))))) := by rfl
-- WhirlShafts.isRate(II)I with (0, None, None)
set_option maxRecDepth 20000 in
theorem b67_0 (X : q_X) (O : q_O) (n : Nat) (h : q_S) (x1 : Int32) (x2 : Int32) : q_go e_67 X O (n + 1) 0 [(0, .ref 0), (1, .int x1), (2, .int x2)] [] h =
  q_c1 (O 107 h [.int x1, .int x2]) (fun h1 v2 =>
  if v2 = 0 then
    some (h1, some (.int (-1)))
  else
    q_c0 (O 36 h1 [.ref 43, .ref 12]) (fun h3 =>
    q_c1 (O 37 h3 [.ref 43, .int x1, .int x2]) (fun h4 v5 =>
    q_c1 (O 40 h4 [.ref 43, .int (h4.1 12 6)]) (fun h6 v7 =>
    if v7 = 0 then
      some (h6, some (.int 1))
    else
      some (h6, some (.int 0)))))) := by rfl
-- WhirlShafts.sign(III)I with (0, None, None, None)
set_option maxRecDepth 20000 in
theorem b68_0 (X : q_X) (O : q_O) (n : Nat) (h : q_S) (x1 : Int32) (x2 : Int32) (x3 : Int32) : q_go e_68 X O (n + 1) 0 [(0, .ref 0), (1, .int x1), (2, .int x2), (3, .int x3)] [] h =
  q_c1 (O 19 h [.ref 12, .int x1]) (fun h1 v2 =>
  if v2 = 0 then
    some (h1, some (.int (-1000)))
  else
    q_c1 (O 107 h1 [.int x2, .int x3]) (fun h3 v4 =>
    if v4 = 0 then
      some (h3, some (.int (-1000)))
    else
      q_c0 (O 36 h3 [.ref 43, .ref 12]) (fun h5 =>
      q_c1 (O 38 h5 [.ref 43, .int 0, .int (x1 - 1), .int x2, .int x3]) (fun h6 v7 =>
      q_c1 (O 40 h6 [.ref 43, .int x1]) (fun h8 v9 =>
      some (h8, some (.int v9))))))) := by rfl
-- WhirlShafts.nodes(II)I with (0, None, None)
set_option maxRecDepth 20000 in
theorem b69_0 (X : q_X) (O : q_O) (n : Nat) (h : q_S) (x1 : Int32) (x2 : Int32) : q_go e_69 X O (n + 1) 0 [(0, .ref 0), (1, .int x1), (2, .int x2)] [] h =
  q_c1 (O 107 h [.int x1, .int x2]) (fun h1 v2 =>
  if v2 = 0 then
    some (h1, some (.int (-1)))
  else
    q_c0 (O 36 h1 [.ref 43, .ref 12]) (fun h3 =>
    q_c1 (O 38 h3 [.ref 43, .int 0, .int ((h3.1 12 6) - 2), .int x1, .int x2]) (fun h4 v5 =>
    some (h4, some (.int v5))))) := by rfl
-- WhirlShafts.rest(III)I with (0, None, None, None)
set_option maxRecDepth 20000 in
theorem b70_0 (X : q_X) (O : q_O) (n : Nat) (h : q_S) (x1 : Int32) (x2 : Int32) (x3 : Int32) : q_go e_70 X O (n + 1) 0 [(0, .ref 0), (1, .int x1), (2, .int x2), (3, .int x3)] [] h =
  if x1 < 0 then
    some (h, some (.int (-1)))
  else
    if (h.1 12 6) < x1 then
      some (h, some (.int (-1)))
    else
      q_c1 (O 107 h [.int x2, .int x3]) (fun h1 v2 =>
      if v2 = 0 then
        some (h1, some (.int (-1)))
      else
        q_c0 (O 36 h1 [.ref 43, .ref 12]) (fun h3 =>
        q_c1 (O 38 h3 [.ref 43, .int 0, .int (x1 - 1), .int x2, .int x3]) (fun h4 v5 =>
        q_c1 (O 41 h4 [.ref 43, .int x1]) (fun h6 v7 =>
        some (h6, some (.int v7)))))) := by rfl
-- WhirlShafts.top()I with (0,)
set_option maxRecDepth 20000 in
theorem b71_0 (X : q_X) (O : q_O) (n : Nat) (h : q_S)  : q_go e_71 X O (n + 1) 0 [(0, .ref 0)] [] h =
  q_c0 (O 36 h [.ref 43, .ref 12]) (fun h1 =>
  q_c1 (O 42 h1 [.ref 43]) (fun h2 v3 =>
  some (h2, some (.int v3)))) := by rfl
-- WhirlShafts.fence(II)I with (0, None, None)
set_option maxRecDepth 20000 in
theorem b72_0 (X : q_X) (O : q_O) (n : Nat) (h : q_S) (x1 : Int32) (x2 : Int32) : q_go e_72 X O (n + 1) 0 [(0, .ref 0), (1, .int x1), (2, .int x2)] [] h =
  q_c1 (O 19 h [.ref 12, .int x1]) (fun h1 v2 =>
  if v2 = 0 then
    some (h1, some (.int (-1)))
  else
    q_c1 (O 106 h1 [.int x2]) (fun h3 v4 =>
    if v4 = 0 then
      some (h3, some (.int (-1)))
    else
      q_c1 (O 112 h3 [.ref 0, .ref 12, .int x1, .int x2]) (fun h5 v6 =>
      some (h5, some (.int v6))))) := by rfl
-- WhirlShafts.held(III)I with (0, None, None, None)
set_option maxRecDepth 20000 in
theorem b73_0 (X : q_X) (O : q_O) (n : Nat) (h : q_S) (x1 : Int32) (x2 : Int32) (x3 : Int32) : q_go e_73 X O (n + 1) 0 [(0, .ref 0), (1, .int x1), (2, .int x2), (3, .int x3)] [] h =
  q_c1 (O 19 h [.ref 12, .int x1]) (fun h1 v2 =>
  if v2 = 0 then
    some (h1, some (.int (-1)))
  else
    q_c1 (O 107 h1 [.int x2, .int x3]) (fun h3 v4 =>
    if v4 = 0 then
      some (h3, some (.int (-1)))
    else
      q_c0 (O 36 h3 [.ref 43, .ref 12]) (fun h5 =>
      q_c1 (O 38 h5 [.ref 43, .int 0, .int (x1 - 1), .int x2, .int x3]) (fun h6 v7 =>
      q_c1 (O 38 h6 [.ref 43, .int (x1 + 1), .int ((h6.1 12 6) - 1), .int x2, .int x3]) (fun h8 v9 =>
      some (h8, some (.int (v7 + v9)))))))) := by rfl
-- WhirlShafts.band(III)I with (0, None, None, None)
set_option maxRecDepth 20000 in
theorem b74_0 (X : q_X) (O : q_O) (n : Nat) (h : q_S) (x1 : Int32) (x2 : Int32) (x3 : Int32) : q_go e_74 X O (n + 1) 0 [(0, .ref 0), (1, .int x1), (2, .int x2), (3, .int x3)] [] h =
  q_c1 (O 108 h [.int x1, .int x2, .int x3]) (fun h1 v2 =>
  if v2 = 0 then
    some (h1, some (.int (-1)))
  else
    q_c0 (O 36 h1 [.ref 43, .ref 12]) (fun h3 =>
    q_c1 (O 45 h3 [.ref 43, .int x1, .int x2, .int x3]) (fun h4 v5 =>
    some (h4, some (.int v5))))) := by rfl
-- WhirlShafts.gap(II)I with (0, None, None)
set_option maxRecDepth 20000 in
theorem b75_0 (X : q_X) (O : q_O) (n : Nat) (h : q_S) (x1 : Int32) (x2 : Int32) : q_go e_75 X O (n + 1) 0 [(0, .ref 0), (1, .int x1), (2, .int x2)] [] h =
  q_c1 (O 106 h [.int x1]) (fun h1 v2 =>
  if v2 = 0 then
    some (h1, some (.int (-1)))
  else
    if x2 < 0 then
      some (h1, some (.int (-1)))
    else
      if 1 < x2 then
        some (h1, some (.int (-1)))
      else
        if (h1.1 12 6) < 2 then
          some (h1, some (.int (-2)))
        else
          q_c0 (O 36 h1 [.ref 43, .ref 12]) (fun h3 =>
          q_c1 (O 43 h3 [.ref 43, .int 0, .int x1]) (fun h4 v5 =>
          q_go e_75 X O n 62 [(0, .ref 0), (1, .int x1), (2, .int x2), (3, .int 0), (4, .int (-1)), (5, .int v5), (6, .int 1)] [] h4))) := by rfl
set_option maxRecDepth 20000 in
theorem b75_62 (X : q_X) (O : q_O) (n : Nat) (h : q_S) (x1 : Int32) (x2 : Int32) (x3 : Int32) (x4 : Int32) (x5 : Int32) (x6 : Int32) : q_go e_75 X O (n + 1) 62 [(0, .ref 0), (1, .int x1), (2, .int x2), (3, .int x3), (4, .int x4), (5, .int x5), (6, .int x6)] [] h =
  if x6 < (h.1 12 6) then
    q_c1 (O 43 h [.ref 43, .int x6, .int x1]) (fun h1 v2 =>
    if x4 < (v2 - x5) then
      q_go e_75 X O n 62 [(0, .ref 0), (1, .int x1), (2, .int x2), (3, .int (x6 - 1)), (4, .int (v2 - x5)), (5, .int v2), (6, .int (x6 + 1))] [] h1
    else
      q_go e_75 X O n 62 [(0, .ref 0), (1, .int x1), (2, .int x2), (3, .int x3), (4, .int x4), (5, .int v2), (6, .int (x6 + 1))] [] h1)
  else
    if x2 = 0 then
      some (h, some (.int x3))
    else
      some (h, some (.int x4)) := by rfl
-- WhirlShafts.trim(IIIII)I with (0, None, None, None, None, None)
set_option maxRecDepth 20000 in
theorem b76_0 (X : q_X) (O : q_O) (n : Nat) (h : q_S) (x1 : Int32) (x2 : Int32) (x3 : Int32) (x4 : Int32) (x5 : Int32) : q_go e_76 X O (n + 1) 0 [(0, .ref 0), (1, .int x1), (2, .int x2), (3, .int x3), (4, .int x4), (5, .int x5)] [] h =
  q_c1 (O 19 h [.ref 12, .int x1]) (fun h1 v2 =>
  if v2 = 0 then
    some (h1, some (.int (-1)))
  else
    q_c1 (O 19 h1 [.ref 12, .int x2]) (fun h3 v4 =>
    if v4 = 0 then
      some (h3, some (.int (-1)))
    else
      q_c1 (O 107 h3 [.int x3, .int x4]) (fun h5 v6 =>
      if v6 = 0 then
        some (h5, some (.int (-1)))
      else
        if x5 < 0 then
          some (h5, some (.int (-1)))
        else
          if 1 < x5 then
            some (h5, some (.int (-1)))
          else
            q_c0 (O 16 h5 [.ref 18, .ref 12]) (fun h7 =>
            q_c1 (O 114 h7 [.ref 0, .int x1, .int x2, .int x3, .int x4]) (fun h8 v9 =>
            if 99 < v9 then
              q_go e_76 X O n 91 [(0, .ref 0), (1, .int x1), (2, .int x2), (3, .int x3), (4, .int x4), (5, .int x5), (6, .int v9)] [.int 10000] h8
            else
              q_c1 (O 113 h8 [.ref 0, .int x1, .int v9, .int x2, .int x4]) (fun h10 v11 =>
              q_go e_76 X O n 91 [(0, .ref 0), (1, .int x1), (2, .int x2), (3, .int x3), (4, .int x4), (5, .int x5), (6, .int v9)] [.int (x3 - v11)] h10)))))) := by rfl
set_option maxRecDepth 20000 in
theorem b76_91 (X : q_X) (O : q_O) (n : Nat) (h : q_S) (x1 : Int32) (x2 : Int32) (x3 : Int32) (x4 : Int32) (x5 : Int32) (x6 : Int32) (s0 : Int32) : q_go e_76 X O (n + 1) 91 [(0, .ref 0), (1, .int x1), (2, .int x2), (3, .int x3), (4, .int x4), (5, .int x5), (6, .int x6)] [.int s0] h =
  if 1 < x6 then
    q_c1 (O 113 h [.ref 0, .int x1, .int (x6 - 1), .int x2, .int x4]) (fun h1 v2 =>
    if s0 < (v2 - x3) then
      if x5 = 0 then
        some (h1, some (.int x6))
      else
        some (h1, some (.int s0))
    else
      q_c1 (O 114 h1 [.ref 0, .int x1, .int x2, .int v2, .int x4]) (fun h3 v4 =>
      if x5 = 0 then
        some (h3, some (.int v4))
      else
        some (h3, some (.int (v2 - x3)))))
  else
    if x5 = 0 then
      some (h, some (.int x6))
    else
      some (h, some (.int s0)) := by rfl
-- WhirlShafts.tune(IIII)I with (0, None, None, None, None)
set_option maxRecDepth 20000 in
theorem b77_0 (X : q_X) (O : q_O) (n : Nat) (h : q_S) (x1 : Int32) (x2 : Int32) (x3 : Int32) (x4 : Int32) : q_go e_77 X O (n + 1) 0 [(0, .ref 0), (1, .int x1), (2, .int x2), (3, .int x3), (4, .int x4)] [] h =
  q_c1 (O 20 h [.ref 12, .int x1]) (fun h1 v2 =>
  if v2 = 0 then
    some (h1, some (.int (-1)))
  else
    q_c1 (O 108 h1 [.int x2, .int x3, .int x4]) (fun h3 v4 =>
    if v4 = 0 then
      some (h3, some (.int (-1)))
    else
      q_c0 (O 16 h3 [.ref 18, .ref 12]) (fun h5 =>
      q_go e_77 X O n 37 [(0, .ref 0), (1, .int x1), (2, .int x2), (3, .int x3), (4, .int x4), (5, .int 1)] [] h5))) := by rfl
set_option maxRecDepth 20000 in
theorem b77_37 (X : q_X) (O : q_O) (n : Nat) (h : q_S) (x1 : Int32) (x2 : Int32) (x3 : Int32) (x4 : Int32) (x5 : Int32) : q_go e_77 X O (n + 1) 37 [(0, .ref 0), (1, .int x1), (2, .int x2), (3, .int x3), (4, .int x4), (5, .int x5)] [] h =
  if 99 < x5 then
    some (h, some (.int (-2)))
  else
    q_ix x1 8 (fun j1 =>
    q_c0 (O 36 (q_si h 22 j1 x5) [.ref 43, .ref 18]) (fun h2 =>
    q_c1 (O 45 h2 [.ref 43, .int x2, .int x3, .int x4]) (fun h3 v4 =>
    if v4 = 0 then
      some (h3, some (.int x5))
    else
      q_go e_77 X O n 37 [(0, .ref 0), (1, .int x1), (2, .int x2), (3, .int x3), (4, .int x4), (5, .int (x5 + 1))] [] h3))) := by rfl
-- WhirlShafts.heavier(III)I with (0, None, None, None)
set_option maxRecDepth 20000 in
theorem b78_0 (X : q_X) (O : q_O) (n : Nat) (h : q_S) (x1 : Int32) (x2 : Int32) (x3 : Int32) : q_go e_78 X O (n + 1) 0 [(0, .ref 0), (1, .int x1), (2, .int x2), (3, .int x3)] [] h =
  q_c1 (O 19 h [.ref 12, .int x1]) (fun h1 v2 =>
  if v2 = 0 then
    some (h1, some (.int (-1)))
  else
    q_c1 (O 106 h1 [.int x2]) (fun h3 v4 =>
    if v4 = 0 then
      some (h3, some (.int (-1)))
    else
      if x3 < 0 then
        some (h3, some (.int (-1)))
      else
        if 1 < x3 then
          some (h3, some (.int (-1)))
        else
          q_c0 (O 16 h3 [.ref 18, .ref 12]) (fun h5 =>
          q_go e_78 X O n 51 [(0, .ref 0), (1, .int x1), (2, .int x2), (3, .int x3), (4, .int (-2)), (5, .int (-2)), (6, .int 0)] [] h5))) := by rfl
set_option maxRecDepth 20000 in
theorem b78_51 (X : q_X) (O : q_O) (n : Nat) (h : q_S) (x1 : Int32) (x2 : Int32) (x3 : Int32) (x4 : Int32) (x5 : Int32) (x6 : Int32) : q_go e_78 X O (n + 1) 51 [(0, .ref 0), (1, .int x1), (2, .int x2), (3, .int x3), (4, .int x4), (5, .int x5), (6, .int x6)] [] h =
  if x6 < (h.1 12 6) then
    q_ix x6 8 (fun j1 =>
    if (h.1 14 j1) < 99 then
      q_ix x6 8 (fun j2 =>
      q_c1 (O 113 h [.ref 0, .int x6, .int ((h.1 14 j2) + 1), .int x1, .int x2]) (fun h3 v4 =>
      q_ix x6 8 (fun j5 =>
      q_ix x6 8 (fun j6 =>
      if x4 < 0 then
        q_go e_78 X O n 51 [(0, .ref 0), (1, .int x1), (2, .int x2), (3, .int x3), (4, .int x6), (5, .int v4), (6, .int (x6 + 1))] [] (q_si h3 20 j6 (h3.1 14 j5))
      else
        if v4 < x5 then
          q_go e_78 X O n 51 [(0, .ref 0), (1, .int x1), (2, .int x2), (3, .int x3), (4, .int x6), (5, .int v4), (6, .int (x6 + 1))] [] (q_si h3 20 j6 (h3.1 14 j5))
        else
          q_go e_78 X O n 51 [(0, .ref 0), (1, .int x1), (2, .int x2), (3, .int x3), (4, .int x4), (5, .int x5), (6, .int (x6 + 1))] [] (q_si h3 20 j6 (h3.1 14 j5))))))
    else
      q_go e_78 X O n 51 [(0, .ref 0), (1, .int x1), (2, .int x2), (3, .int x3), (4, .int x4), (5, .int x5), (6, .int (x6 + 1))] [] h)
  else
    if x3 = 0 then
      some (h, some (.int x4))
    else
      some (h, some (.int x5)) := by rfl
-- WhirlShafts.change(II)I with (0, None, None)
set_option maxRecDepth 20000 in
theorem b79_0 (X : q_X) (O : q_O) (n : Nat) (h : q_S) (x1 : Int32) (x2 : Int32) : q_go e_79 X O (n + 1) 0 [(0, .ref 0), (1, .int x1), (2, .int x2)] [] h =
  q_c1 (O 19 h [.ref 12, .int x1]) (fun h1 v2 =>
  if v2 = 0 then
    some (h1, some (.int (-1)))
  else
    q_c1 (O 106 h1 [.int x2]) (fun h3 v4 =>
    if v4 = 0 then
      some (h3, some (.int (-1)))
    else
      q_c0 (O 16 h3 [.ref 18, .ref 12]) (fun h5 =>
      q_c1 (O 112 h5 [.ref 0, .ref 12, .int x1, .int x2]) (fun h6 v7 =>
      q_go e_79 X O n 49 [(0, .ref 0), (1, .int x1), (2, .int x2), (3, .int (-2)), (4, .int v7), (5, .int 0)] [] h6)))) := by rfl
set_option maxRecDepth 20000 in
theorem b79_49 (X : q_X) (O : q_O) (n : Nat) (h : q_S) (x1 : Int32) (x2 : Int32) (x3 : Int32) (x4 : Int32) (x5 : Int32) : q_go e_79 X O (n + 1) 49 [(0, .ref 0), (1, .int x1), (2, .int x2), (3, .int x3), (4, .int x4), (5, .int x5)] [] h =
  if (x5 + 1) < (h.1 12 6) then
    q_c0 (O 18 h [.ref 18, .int x5]) (fun h1 =>
    q_c1 (O 112 h1 [.ref 0, .ref 18, .int x1, .int x2]) (fun h2 v3 =>
    q_c0 (O 18 h2 [.ref 18, .int x5]) (fun h4 =>
    if x4 < v3 then
      q_go e_79 X O n 49 [(0, .ref 0), (1, .int x1), (2, .int x2), (3, .int x5), (4, .int v3), (5, .int (x5 + 1))] [] h4
    else
      q_go e_79 X O n 49 [(0, .ref 0), (1, .int x1), (2, .int x2), (3, .int x3), (4, .int x4), (5, .int (x5 + 1))] [] h4)))
  else
    some (h, some (.int x3)) := by rfl
-- WhirlShafts.critical(I)I with (0, None)
set_option maxRecDepth 20000 in
theorem b80_0 (X : q_X) (O : q_O) (n : Nat) (h : q_S) (x1 : Int32) : q_go e_80 X O (n + 1) 0 [(0, .ref 0), (1, .int x1)] [] h =
  q_c1 (O 19 h [.ref 12, .int x1]) (fun h1 v2 =>
  if v2 = 0 then
    some (h1, some (.int (-1)))
  else
    q_c0 (O 16 h1 [.ref 18, .ref 12]) (fun h3 =>
    q_go e_80 X O n 26 [(0, .ref 0), (1, .int x1), (2, .int 1)] [] h3)) := by rfl
set_option maxRecDepth 20000 in
theorem b80_26 (X : q_X) (O : q_O) (n : Nat) (h : q_S) (x1 : Int32) (x2 : Int32) : q_go e_80 X O (n + 1) 26 [(0, .ref 0), (1, .int x1), (2, .int x2)] [] h =
  if 9 < x2 then
    some (h, some (.int (-2)))
  else
    q_c1 (O 112 (q_si h 18 7 x2) [.ref 0, .ref 18, .int x1, .int 1]) (fun h1 v2 =>
    if (x2 * x2) < v2 then
      q_go e_80 X O n 26 [(0, .ref 0), (1, .int x1), (2, .int (x2 + 1))] [] h1
    else
      some (h1, some (.int x2))) := by rfl
-- WhirlShafts.fits(IIIII)I with (0, None, None, None, None, None)
set_option maxRecDepth 20000 in
theorem b81_0 (X : q_X) (O : q_O) (n : Nat) (h : q_S) (x1 : Int32) (x2 : Int32) (x3 : Int32) (x4 : Int32) (x5 : Int32) : q_go e_81 X O (n + 1) 0 [(0, .ref 0), (1, .int x1), (2, .int x2), (3, .int x3), (4, .int x4), (5, .int x5)] [] h =
  q_c1 (O 109 h [.int x1]) (fun h1 v2 =>
  if v2 = 0 then
    some (h1, some (.int (-1)))
  else
    if x2 < 0 then
      some (h1, some (.int (-1)))
    else
      if (h1.1 12 6) < x2 then
        some (h1, some (.int (-1)))
      else
        q_c1 (O 106 h1 [.int x3]) (fun h3 v4 =>
        if v4 = 0 then
          some (h3, some (.int (-1)))
        else
          q_c1 (O 19 h3 [.ref 12, .int x4]) (fun h5 v6 =>
          if v6 = 0 then
            some (h5, some (.int (-1)))
          else
            if x5 < 0 then
              some (h5, some (.int (-1)))
            else
              if 2 < x5 then
                some (h5, some (.int (-1)))
              else
                q_ix x1 3 (fun j7 =>
                q_go e_81 X O n 60 [(0, .ref 0), (1, .int x1), (2, .int x2), (3, .int x3), (4, .int x4), (5, .int x5)] [.ref (q_rf 60 j7)] h5)))) := by rfl
set_option maxRecDepth 20000 in
theorem b81_60 (X : q_X) (O : q_O) (n : Nat) (h : q_S) (x1 : Int32) (x2 : Int32) (x3 : Int32) (x4 : Int32) (x5 : Int32) : q_go e_81 X O (n + 1) 60 [(0, .ref 0), (1, .int x1), (2, .int x2), (3, .int x3), (4, .int x4), (5, .int x5)] [.ref 61] h =
  q_c1 (O 48 h [.ref 61]) (fun h1 v2 =>
  if v2 = 0 then
    q_ix x1 3 (fun j3 =>
    q_go e_81 X O n 76 [(0, .ref 0), (1, .int x1), (2, .int x2), (3, .int x3), (4, .int x4), (5, .int x5)] [.ref (q_rf 60 j3), .int x2] h1)
  else
    some (h1, some (.int (-11)))) := by rfl
set_option maxRecDepth 20000 in
theorem b81_60_1 (X : q_X) (O : q_O) (n : Nat) (h : q_S) (x1 : Int32) (x2 : Int32) (x3 : Int32) (x4 : Int32) (x5 : Int32) : q_go e_81 X O (n + 1) 60 [(0, .ref 0), (1, .int x1), (2, .int x2), (3, .int x3), (4, .int x4), (5, .int x5)] [.ref 62] h =
  q_c1 (O 48 h [.ref 62]) (fun h1 v2 =>
  if v2 = 0 then
    q_ix x1 3 (fun j3 =>
    q_go e_81 X O n 76 [(0, .ref 0), (1, .int x1), (2, .int x2), (3, .int x3), (4, .int x4), (5, .int x5)] [.ref (q_rf 60 j3), .int x2] h1)
  else
    some (h1, some (.int (-11)))) := by rfl
set_option maxRecDepth 20000 in
theorem b81_60_2 (X : q_X) (O : q_O) (n : Nat) (h : q_S) (x1 : Int32) (x2 : Int32) (x3 : Int32) (x4 : Int32) (x5 : Int32) : q_go e_81 X O (n + 1) 60 [(0, .ref 0), (1, .int x1), (2, .int x2), (3, .int x3), (4, .int x4), (5, .int x5)] [.ref 63] h =
  q_c1 (O 48 h [.ref 63]) (fun h1 v2 =>
  if v2 = 0 then
    q_ix x1 3 (fun j3 =>
    q_go e_81 X O n 76 [(0, .ref 0), (1, .int x1), (2, .int x2), (3, .int x3), (4, .int x4), (5, .int x5)] [.ref (q_rf 60 j3), .int x2] h1)
  else
    some (h1, some (.int (-11)))) := by rfl
set_option maxRecDepth 20000 in
theorem b81_76 (X : q_X) (O : q_O) (n : Nat) (h : q_S) (x1 : Int32) (x2 : Int32) (x3 : Int32) (x4 : Int32) (x5 : Int32) (s1 : Int32) : q_go e_81 X O (n + 1) 76 [(0, .ref 0), (1, .int x1), (2, .int x2), (3, .int x3), (4, .int x4), (5, .int x5)] [.ref 61, .int s1] h =
  if (h.1 61 2) < s1 then
    some (h, some (.int (-13)))
  else
    q_c0 (O 16 h [.ref 18, .ref 12]) (fun h1 =>
    if x5 = 2 then
      q_ix x1 3 (fun j2 =>
      q_go e_81 X O n 109 [(2, .int x2), (3, .int x3), (4, .int x4)] [.ref (q_rf 60 j2), .ref 0] h1)
    else
      q_ix x1 3 (fun j3 =>
      q_go e_81 X O n 124 [(2, .int x2), (3, .int x3), (4, .int x4), (5, .int x5)] [.ref (q_rf 60 j3), .ref 0] h1)) := by rfl
set_option maxRecDepth 20000 in
theorem b81_76_1 (X : q_X) (O : q_O) (n : Nat) (h : q_S) (x1 : Int32) (x2 : Int32) (x3 : Int32) (x4 : Int32) (x5 : Int32) (s1 : Int32) : q_go e_81 X O (n + 1) 76 [(0, .ref 0), (1, .int x1), (2, .int x2), (3, .int x3), (4, .int x4), (5, .int x5)] [.ref 62, .int s1] h =
  if (h.1 62 2) < s1 then
    some (h, some (.int (-13)))
  else
    q_c0 (O 16 h [.ref 18, .ref 12]) (fun h1 =>
    if x5 = 2 then
      q_ix x1 3 (fun j2 =>
      q_go e_81 X O n 109 [(2, .int x2), (3, .int x3), (4, .int x4)] [.ref (q_rf 60 j2), .ref 0] h1)
    else
      q_ix x1 3 (fun j3 =>
      q_go e_81 X O n 124 [(2, .int x2), (3, .int x3), (4, .int x4), (5, .int x5)] [.ref (q_rf 60 j3), .ref 0] h1)) := by rfl
set_option maxRecDepth 20000 in
theorem b81_76_2 (X : q_X) (O : q_O) (n : Nat) (h : q_S) (x1 : Int32) (x2 : Int32) (x3 : Int32) (x4 : Int32) (x5 : Int32) (s1 : Int32) : q_go e_81 X O (n + 1) 76 [(0, .ref 0), (1, .int x1), (2, .int x2), (3, .int x3), (4, .int x4), (5, .int x5)] [.ref 63, .int s1] h =
  if (h.1 63 2) < s1 then
    some (h, some (.int (-13)))
  else
    q_c0 (O 16 h [.ref 18, .ref 12]) (fun h1 =>
    if x5 = 2 then
      q_ix x1 3 (fun j2 =>
      q_go e_81 X O n 109 [(2, .int x2), (3, .int x3), (4, .int x4)] [.ref (q_rf 60 j2), .ref 0] h1)
    else
      q_ix x1 3 (fun j3 =>
      q_go e_81 X O n 124 [(2, .int x2), (3, .int x3), (4, .int x4), (5, .int x5)] [.ref (q_rf 60 j3), .ref 0] h1)) := by rfl
set_option maxRecDepth 20000 in
theorem b81_109 (X : q_X) (O : q_O) (n : Nat) (h : q_S) (x2 : Int32) (x3 : Int32) (x4 : Int32) : q_go e_81 X O (n + 1) 109 [(2, .int x2), (3, .int x3), (4, .int x4)] [.ref 61, .ref 0] h =
  q_c1 (O 117 h [.ref 0, .ref 61, .int x2, .int x3, .int x4]) (fun h1 v2 =>
  some (h1, some (.int v2))) := by rfl
set_option maxRecDepth 20000 in
theorem b81_109_1 (X : q_X) (O : q_O) (n : Nat) (h : q_S) (x2 : Int32) (x3 : Int32) (x4 : Int32) : q_go e_81 X O (n + 1) 109 [(2, .int x2), (3, .int x3), (4, .int x4)] [.ref 62, .ref 0] h =
  q_c1 (O 117 h [.ref 0, .ref 62, .int x2, .int x3, .int x4]) (fun h1 v2 =>
  some (h1, some (.int v2))) := by rfl
set_option maxRecDepth 20000 in
theorem b81_109_2 (X : q_X) (O : q_O) (n : Nat) (h : q_S) (x2 : Int32) (x3 : Int32) (x4 : Int32) : q_go e_81 X O (n + 1) 109 [(2, .int x2), (3, .int x3), (4, .int x4)] [.ref 63, .ref 0] h =
  q_c1 (O 117 h [.ref 0, .ref 63, .int x2, .int x3, .int x4]) (fun h1 v2 =>
  some (h1, some (.int v2))) := by rfl
set_option maxRecDepth 20000 in
theorem b81_124 (X : q_X) (O : q_O) (n : Nat) (h : q_S) (x2 : Int32) (x3 : Int32) (x4 : Int32) (x5 : Int32) : q_go e_81 X O (n + 1) 124 [(2, .int x2), (3, .int x3), (4, .int x4), (5, .int x5)] [.ref 61, .ref 0] h =
  if x5 = 1 then
    q_c1 (O 116 h [.ref 0, .ref 61, .int x2, .int x3, .int x4, .int 1]) (fun h1 v2 =>
    some (h1, some (.int v2)))
  else
    q_c1 (O 116 h [.ref 0, .ref 61, .int x2, .int x3, .int x4, .int 0]) (fun h3 v4 =>
    some (h3, some (.int v4))) := by rfl
set_option maxRecDepth 20000 in
theorem b81_124_1 (X : q_X) (O : q_O) (n : Nat) (h : q_S) (x2 : Int32) (x3 : Int32) (x4 : Int32) (x5 : Int32) : q_go e_81 X O (n + 1) 124 [(2, .int x2), (3, .int x3), (4, .int x4), (5, .int x5)] [.ref 62, .ref 0] h =
  if x5 = 1 then
    q_c1 (O 116 h [.ref 0, .ref 62, .int x2, .int x3, .int x4, .int 1]) (fun h1 v2 =>
    some (h1, some (.int v2)))
  else
    q_c1 (O 116 h [.ref 0, .ref 62, .int x2, .int x3, .int x4, .int 0]) (fun h3 v4 =>
    some (h3, some (.int v4))) := by rfl
set_option maxRecDepth 20000 in
theorem b81_124_2 (X : q_X) (O : q_O) (n : Nat) (h : q_S) (x2 : Int32) (x3 : Int32) (x4 : Int32) (x5 : Int32) : q_go e_81 X O (n + 1) 124 [(2, .int x2), (3, .int x3), (4, .int x4), (5, .int x5)] [.ref 63, .ref 0] h =
  if x5 = 1 then
    q_c1 (O 116 h [.ref 0, .ref 63, .int x2, .int x3, .int x4, .int 1]) (fun h1 v2 =>
    some (h1, some (.int v2)))
  else
    q_c1 (O 116 h [.ref 0, .ref 63, .int x2, .int x3, .int x4, .int 0]) (fun h3 v4 =>
    some (h3, some (.int v4))) := by rfl
-- WhirlShafts.judge(II)I with (0, None, None)
set_option maxRecDepth 20000 in
theorem b82_0 (X : q_X) (O : q_O) (n : Nat) (h : q_S) (x1 : Int32) (x2 : Int32) : q_go e_82 X O (n + 1) 0 [(0, .ref 0), (1, .int x1), (2, .int x2)] [] h =
  q_c1 (O 109 h [.int x1]) (fun h1 v2 =>
  if v2 = 0 then
    some (h1, some (.int (-1)))
  else
    q_c1 (O 106 h1 [.int x2]) (fun h3 v4 =>
    if v4 = 0 then
      some (h3, some (.int (-1)))
    else
      q_ix x1 3 (fun j5 =>
      q_go e_82 X O n 22 [(0, .ref 0), (2, .int x2)] [.ref (q_rf 60 j5)] h3))) := by rfl
set_option maxRecDepth 20000 in
theorem b82_22 (X : q_X) (O : q_O) (n : Nat) (h : q_S) (x2 : Int32) : q_go e_82 X O (n + 1) 22 [(0, .ref 0), (2, .int x2)] [.ref 61] h =
  q_c1 (O 48 h [.ref 61]) (fun h1 v2 =>
  if v2 = 0 then
    q_c0 (O 36 h1 [.ref 43, .ref 12]) (fun h3 =>
    q_go e_82 X O n 47 [(0, .ref 0), (2, .int x2), (3, .ref 61), (4, .int 0)] [] h3)
  else
    some (h1, some (.int (-11)))) := by rfl
set_option maxRecDepth 20000 in
theorem b82_22_1 (X : q_X) (O : q_O) (n : Nat) (h : q_S) (x2 : Int32) : q_go e_82 X O (n + 1) 22 [(0, .ref 0), (2, .int x2)] [.ref 62] h =
  q_c1 (O 48 h [.ref 62]) (fun h1 v2 =>
  if v2 = 0 then
    q_c0 (O 36 h1 [.ref 43, .ref 12]) (fun h3 =>
    q_go e_82 X O n 47 [(0, .ref 0), (2, .int x2), (3, .ref 62), (4, .int 0)] [] h3)
  else
    some (h1, some (.int (-11)))) := by rfl
set_option maxRecDepth 20000 in
theorem b82_22_2 (X : q_X) (O : q_O) (n : Nat) (h : q_S) (x2 : Int32) : q_go e_82 X O (n + 1) 22 [(0, .ref 0), (2, .int x2)] [.ref 63] h =
  q_c1 (O 48 h [.ref 63]) (fun h1 v2 =>
  if v2 = 0 then
    q_c0 (O 36 h1 [.ref 43, .ref 12]) (fun h3 =>
    q_go e_82 X O n 47 [(0, .ref 0), (2, .int x2), (3, .ref 63), (4, .int 0)] [] h3)
  else
    some (h1, some (.int (-11)))) := by rfl
set_option maxRecDepth 20000 in
theorem b82_47 (X : q_X) (O : q_O) (n : Nat) (h : q_S) (x2 : Int32) (x4 : Int32) : q_go e_82 X O (n + 1) 47 [(0, .ref 0), (2, .int x2), (3, .ref 61), (4, .int x4)] [] h =
  if x4 < (h.1 12 6) then
    if x4 < (h.1 61 2) then
      q_ix x4 40 (fun j1 =>
      q_c1 (O 44 h [.ref 43, .int x4, .int x2, .long (h.2.1 64 j1)]) (fun h2 v3 =>
      if v3 = 0 then
        some (h2, some (.int x4))
      else
        q_go e_82 X O n 47 [(0, .ref 0), (2, .int x2), (3, .ref 61), (4, .int (x4 + 1))] [] h2))
    else
      some (h, some (.int (100 + x4)))
  else
    some (h, some (.int (-2))) := by rfl
set_option maxRecDepth 20000 in
theorem b82_47_1 (X : q_X) (O : q_O) (n : Nat) (h : q_S) (x2 : Int32) (x4 : Int32) : q_go e_82 X O (n + 1) 47 [(0, .ref 0), (2, .int x2), (3, .ref 62), (4, .int x4)] [] h =
  if x4 < (h.1 12 6) then
    if x4 < (h.1 62 2) then
      q_ix x4 40 (fun j1 =>
      q_c1 (O 44 h [.ref 43, .int x4, .int x2, .long (h.2.1 65 j1)]) (fun h2 v3 =>
      if v3 = 0 then
        some (h2, some (.int x4))
      else
        q_go e_82 X O n 47 [(0, .ref 0), (2, .int x2), (3, .ref 62), (4, .int (x4 + 1))] [] h2))
    else
      some (h, some (.int (100 + x4)))
  else
    some (h, some (.int (-2))) := by rfl
set_option maxRecDepth 20000 in
theorem b82_47_2 (X : q_X) (O : q_O) (n : Nat) (h : q_S) (x2 : Int32) (x4 : Int32) : q_go e_82 X O (n + 1) 47 [(0, .ref 0), (2, .int x2), (3, .ref 63), (4, .int x4)] [] h =
  if x4 < (h.1 12 6) then
    if x4 < (h.1 63 2) then
      q_ix x4 40 (fun j1 =>
      q_c1 (O 44 h [.ref 43, .int x4, .int x2, .long (h.2.1 66 j1)]) (fun h2 v3 =>
      if v3 = 0 then
        some (h2, some (.int x4))
      else
        q_go e_82 X O n 47 [(0, .ref 0), (2, .int x2), (3, .ref 63), (4, .int (x4 + 1))] [] h2))
    else
      some (h, some (.int (100 + x4)))
  else
    some (h, some (.int (-2))) := by rfl
-- WhirlShafts.order(III)I with (0, None, None, None)
set_option maxRecDepth 20000 in
theorem b83_0 (X : q_X) (O : q_O) (n : Nat) (h : q_S) (x1 : Int32) (x2 : Int32) (x3 : Int32) : q_go e_83 X O (n + 1) 0 [(0, .ref 0), (1, .int x1), (2, .int x2), (3, .int x3)] [] h =
  if x1 < 0 then
    some (h, some (.int (-1)))
  else
    if 5 < x1 then
      some (h, some (.int (-1)))
    else
      if (h.1 30 3) < 8 then
        q_c1 (O 34 h [.ref 30, .int x1, .int x2, .int x3]) (fun h1 v2 =>
        some (h1, some (.int v2)))
      else
        some (h, some (.int (-3))) := by rfl
-- WhirlShafts.tried(II)I with (0, None, None)
set_option maxRecDepth 20000 in
theorem b84_0 (X : q_X) (O : q_O) (n : Nat) (h : q_S) (x1 : Int32) (x2 : Int32) : q_go e_84 X O (n + 1) 0 [(0, .ref 0), (1, .int x1), (2, .int x2)] [] h =
  q_c1 (O 19 h [.ref 12, .int x1]) (fun h1 v2 =>
  if v2 = 0 then
    some (h1, some (.int (-1)))
  else
    q_c1 (O 106 h1 [.int x2]) (fun h3 v4 =>
    if v4 = 0 then
      some (h3, some (.int (-1)))
    else
      q_c0 (O 16 h3 [.ref 18, .ref 12]) (fun h5 =>
      q_go e_84 X O n 33 [(0, .ref 0), (1, .int x1), (2, .int x2), (3, .int 0)] [] h5))) := by rfl
set_option maxRecDepth 20000 in
theorem b84_33 (X : q_X) (O : q_O) (n : Nat) (h : q_S) (x1 : Int32) (x2 : Int32) (x3 : Int32) : q_go e_84 X O (n + 1) 33 [(0, .ref 0), (1, .int x1), (2, .int x2), (3, .int x3)] [] h =
  if x3 < (h.1 30 3) then
    q_ix x3 8 (fun j1 =>
    q_ix x3 8 (fun j2 =>
    q_ix x3 8 (fun j3 =>
    q_c1 (O 22 h [.ref 18, .int (h.1 31 j1), .int (h.1 32 j2), .int (h.1 33 j3)]) (fun h4 v5 =>
    if v5 = 0 then
      q_ix x3 8 (fun j6 =>
      q_ix x3 8 (fun j7 =>
      q_ix x3 8 (fun j8 =>
      q_c0 (O 24 h4 [.ref 18, .int (h4.1 31 j6), .int (h4.1 32 j7), .int (h4.1 33 j8)]) (fun h9 =>
      q_go e_84 X O n 33 [(0, .ref 0), (1, .int x1), (2, .int x2), (3, .int (x3 + 1))] [] h9))))
    else
      q_go e_84 X O n 33 [(0, .ref 0), (1, .int x1), (2, .int x2), (3, .int (x3 + 1))] [] h4))))
  else
    q_c1 (O 112 h [.ref 0, .ref 18, .int x1, .int x2]) (fun h10 v11 =>
    some (h10, some (.int v11))) := by rfl
-- WhirlShafts.does()I with (0,)
set_option maxRecDepth 20000 in
theorem b85_0 (X : q_X) (O : q_O) (n : Nat) (h : q_S)  : q_go e_85 X O (n + 1) 0 [(0, .ref 0)] [] h =
  q_go e_85 X O n 4 [(0, .ref 0), (1, .int 0), (2, .int 0)] [] h := by rfl
set_option maxRecDepth 20000 in
theorem b85_4 (X : q_X) (O : q_O) (n : Nat) (h : q_S) (x1 : Int32) (x2 : Int32) : q_go e_85 X O (n + 1) 4 [(0, .ref 0), (1, .int x1), (2, .int x2)] [] h =
  if x2 < (h.1 30 3) then
    q_ix x2 8 (fun j1 =>
    q_ix x2 8 (fun j2 =>
    q_ix x2 8 (fun j3 =>
    q_c1 (O 64 h [.ref 0, .int (h.1 31 j1), .int (h.1 32 j2), .int (h.1 33 j3)]) (fun h4 v5 =>
    if v5 < 0 then
      q_go e_85 X O n 4 [(0, .ref 0), (1, .int x1), (2, .int (x2 + 1))] [] h4
    else
      q_go e_85 X O n 4 [(0, .ref 0), (1, .int (x1 + 1)), (2, .int (x2 + 1))] [] h4))))
  else
    some ((q_si h 30 3 0), some (.int x1)) := by rfl
-- WhirlShafts.drop()I with (0,)
set_option maxRecDepth 20000 in
theorem b86_0 (X : q_X) (O : q_O) (n : Nat) (h : q_S)  : q_go e_86 X O (n + 1) 0 [(0, .ref 0)] [] h =
  some ((q_si h 30 3 0), some (.int (h.1 30 3))) := by rfl
-- WhirlShafts.undo()I with (0,)
set_option maxRecDepth 20000 in
theorem b87_0 (X : q_X) (O : q_O) (n : Nat) (h : q_S)  : q_go e_87 X O (n + 1) 0 [(0, .ref 0)] [] h =
  if (h.1 38 4) = 0 then
    some (h, some (.int (-5)))
  else
    q_c1 (O 3 h [.ref 38, .ref 12]) (fun h1 v2 =>
    some (h1, some (.int v2))) := by rfl
-- WhirlShafts.redo()I with (0,)
set_option maxRecDepth 20000 in
theorem b88_0 (X : q_X) (O : q_O) (n : Nat) (h : q_S)  : q_go e_88 X O (n + 1) 0 [(0, .ref 0)] [] h =
  if (h.1 38 5) = 0 then
    some (h, some (.int (-5)))
  else
    q_c1 (O 4 h [.ref 38, .ref 12]) (fun h1 v2 =>
    some (h1, some (.int v2))) := by rfl
-- WhirlShafts.feed(I)I with (0, None)
set_option maxRecDepth 20000 in
theorem b89_0 (X : q_X) (O : q_O) (n : Nat) (h : q_S) (x1 : Int32) : q_go e_89 X O (n + 1) 0 [(0, .ref 0), (1, .int x1)] [] h =
  if x1 < 32 then
    some (h, some (.int (-1)))
  else
    if 126 < x1 then
      some (h, some (.int (-1)))
    else
      if (h.1 57 1) < 80 then
        q_c1 (O 55 h [.ref 57, .int x1]) (fun h1 v2 =>
        some (h1, some (.int v2)))
      else
        some (h, some (.int (-3))) := by rfl
-- WhirlShafts.wipe()I with (0,)
set_option maxRecDepth 20000 in
theorem b90_0 (X : q_X) (O : q_O) (n : Nat) (h : q_S)  : q_go e_90 X O (n + 1) 0 [(0, .ref 0)] [] h =
  some ((q_si h 57 1 0), some (.int (h.1 57 1))) := by rfl
-- WhirlShafts.read()I with (0,)
set_option maxRecDepth 20000 in
theorem b91_0 (X : q_X) (O : q_O) (n : Nat) (h : q_S)  : q_go e_91 X O (n + 1) 0 [(0, .ref 0)] [] h =
  q_c1 (O 58 h [.ref 57]) (fun h1 v2 =>
  if v2 < 0 then
    q_c1 (O 118 h1 [.ref 0]) (fun h3 v4 =>
    some ((q_si h3 57 1 0), some (.int v4)))
  else
    some ((q_si h1 57 1 0), some (.int ((-100) - v2)))) := by rfl
-- WhirlShafts.row(III)I with (0, None, None, None)
set_option maxRecDepth 20000 in
theorem b92_0 (X : q_X) (O : q_O) (n : Nat) (h : q_S) (x1 : Int32) (x2 : Int32) (x3 : Int32) : q_go e_92 X O (n + 1) 0 [(0, .ref 0), (1, .int x1), (2, .int x2), (3, .int x3)] [] h =
  q_c1 (O 109 h [.int x1]) (fun h1 v2 =>
  if v2 = 0 then
    some (h1, some (.int (-1)))
  else
    if x2 < (-1) then
      some (h1, some (.int (-1)))
    else
      if 2 < x2 then
        some (h1, some (.int (-1)))
      else
        if x2 = (-1) then
          q_ix x1 3 (fun j3 =>
          q_go e_92 X O n 30 [] [.ref (q_rf 60 j3)] h1)
        else
          if 40 < x3 then
            some (h1, some (.int (-1)))
          else
            if x3 < 0 then
              some (h1, some (.int (-14)))
            else
              q_ix x1 3 (fun j4 =>
              q_go e_92 X O n 58 [(2, .int x2), (3, .int x3)] [.ref (q_rf 60 j4)] h1)) := by rfl
set_option maxRecDepth 20000 in
theorem b92_30 (X : q_X) (O : q_O) (n : Nat) (h : q_S)  : q_go e_92 X O (n + 1) 30 [] [.ref 61] h =
  q_c0 (O 49 h [.ref 61, .int (-1), .int 0]) (fun h1 =>
  some (h1, some (.int 1))) := by rfl
set_option maxRecDepth 20000 in
theorem b92_30_1 (X : q_X) (O : q_O) (n : Nat) (h : q_S)  : q_go e_92 X O (n + 1) 30 [] [.ref 62] h =
  q_c0 (O 49 h [.ref 62, .int (-1), .int 0]) (fun h1 =>
  some (h1, some (.int 1))) := by rfl
set_option maxRecDepth 20000 in
theorem b92_30_2 (X : q_X) (O : q_O) (n : Nat) (h : q_S)  : q_go e_92 X O (n + 1) 30 [] [.ref 63] h =
  q_c0 (O 49 h [.ref 63, .int (-1), .int 0]) (fun h1 =>
  some (h1, some (.int 1))) := by rfl
set_option maxRecDepth 20000 in
theorem b92_58 (X : q_X) (O : q_O) (n : Nat) (h : q_S) (x2 : Int32) (x3 : Int32) : q_go e_92 X O (n + 1) 58 [(2, .int x2), (3, .int x3)] [.ref 61] h =
  q_c0 (O 49 h [.ref 61, .int x2, .int x3]) (fun h1 =>
  some (h1, some (.int 1))) := by rfl
set_option maxRecDepth 20000 in
theorem b92_58_1 (X : q_X) (O : q_O) (n : Nat) (h : q_S) (x2 : Int32) (x3 : Int32) : q_go e_92 X O (n + 1) 58 [(2, .int x2), (3, .int x3)] [.ref 62] h =
  q_c0 (O 49 h [.ref 62, .int x2, .int x3]) (fun h1 =>
  some (h1, some (.int 1))) := by rfl
set_option maxRecDepth 20000 in
theorem b92_58_2 (X : q_X) (O : q_O) (n : Nat) (h : q_S) (x2 : Int32) (x3 : Int32) : q_go e_92 X O (n + 1) 58 [(2, .int x2), (3, .int x3)] [.ref 63] h =
  q_c0 (O 49 h [.ref 63, .int x2, .int x3]) (fun h1 =>
  some (h1, some (.int 1))) := by rfl
-- WhirlShafts.put(IIJ)I with (0, None, None, None)
set_option maxRecDepth 20000 in
theorem b93_0 (X : q_X) (O : q_O) (n : Nat) (h : q_S) (x1 : Int32) (x2 : Int32) (x3 : Int64) : q_go e_93 X O (n + 1) 0 [(0, .ref 0), (1, .int x1), (2, .int x2), (3, .long x3)] [] h =
  q_c1 (O 109 h [.int x1]) (fun h1 v2 =>
  if v2 = 0 then
    some (h1, some (.int (-1)))
  else
    q_ix x1 3 (fun j3 =>
    q_go e_93 X O n 15 [(0, .ref 0), (1, .int x1), (2, .int x2), (3, .long x3)] [.ref (q_rf 60 j3)] h1)) := by rfl
set_option maxRecDepth 20000 in
theorem b93_15 (X : q_X) (O : q_O) (n : Nat) (h : q_S) (x1 : Int32) (x2 : Int32) (x3 : Int64) : q_go e_93 X O (n + 1) 15 [(0, .ref 0), (1, .int x1), (2, .int x2), (3, .long x3)] [.ref 61] h =
  q_c1 (O 48 h [.ref 61]) (fun h1 v2 =>
  if v2 = 0 then
    q_ix x1 3 (fun j3 =>
    q_go e_93 X O n 30 [(0, .ref 0), (1, .int x1), (2, .int x2), (3, .long x3)] [.ref (q_rf 60 j3)] h1)
  else
    some (h1, some (.int (-11)))) := by rfl
set_option maxRecDepth 20000 in
theorem b93_15_1 (X : q_X) (O : q_O) (n : Nat) (h : q_S) (x1 : Int32) (x2 : Int32) (x3 : Int64) : q_go e_93 X O (n + 1) 15 [(0, .ref 0), (1, .int x1), (2, .int x2), (3, .long x3)] [.ref 62] h =
  q_c1 (O 48 h [.ref 62]) (fun h1 v2 =>
  if v2 = 0 then
    q_ix x1 3 (fun j3 =>
    q_go e_93 X O n 30 [(0, .ref 0), (1, .int x1), (2, .int x2), (3, .long x3)] [.ref (q_rf 60 j3)] h1)
  else
    some (h1, some (.int (-11)))) := by rfl
set_option maxRecDepth 20000 in
theorem b93_15_2 (X : q_X) (O : q_O) (n : Nat) (h : q_S) (x1 : Int32) (x2 : Int32) (x3 : Int64) : q_go e_93 X O (n + 1) 15 [(0, .ref 0), (1, .int x1), (2, .int x2), (3, .long x3)] [.ref 63] h =
  q_c1 (O 48 h [.ref 63]) (fun h1 v2 =>
  if v2 = 0 then
    q_ix x1 3 (fun j3 =>
    q_go e_93 X O n 30 [(0, .ref 0), (1, .int x1), (2, .int x2), (3, .long x3)] [.ref (q_rf 60 j3)] h1)
  else
    some (h1, some (.int (-11)))) := by rfl
set_option maxRecDepth 20000 in
theorem b93_30 (X : q_X) (O : q_O) (n : Nat) (h : q_S) (x1 : Int32) (x2 : Int32) (x3 : Int64) : q_go e_93 X O (n + 1) 30 [(0, .ref 0), (1, .int x1), (2, .int x2), (3, .long x3)] [.ref 61] h =
  q_c1 (O 50 h [.ref 61, .int x2]) (fun h1 v2 =>
  if v2 = 0 then
    some (h1, some (.int (-13)))
  else
    q_ix x1 3 (fun j3 =>
    q_go e_93 X O n 46 [(2, .int x2), (3, .long x3)] [.ref (q_rf 60 j3)] h1)) := by rfl
set_option maxRecDepth 20000 in
theorem b93_30_1 (X : q_X) (O : q_O) (n : Nat) (h : q_S) (x1 : Int32) (x2 : Int32) (x3 : Int64) : q_go e_93 X O (n + 1) 30 [(0, .ref 0), (1, .int x1), (2, .int x2), (3, .long x3)] [.ref 62] h =
  q_c1 (O 50 h [.ref 62, .int x2]) (fun h1 v2 =>
  if v2 = 0 then
    some (h1, some (.int (-13)))
  else
    q_ix x1 3 (fun j3 =>
    q_go e_93 X O n 46 [(2, .int x2), (3, .long x3)] [.ref (q_rf 60 j3)] h1)) := by rfl
set_option maxRecDepth 20000 in
theorem b93_30_2 (X : q_X) (O : q_O) (n : Nat) (h : q_S) (x1 : Int32) (x2 : Int32) (x3 : Int64) : q_go e_93 X O (n + 1) 30 [(0, .ref 0), (1, .int x1), (2, .int x2), (3, .long x3)] [.ref 63] h =
  q_c1 (O 50 h [.ref 63, .int x2]) (fun h1 v2 =>
  if v2 = 0 then
    some (h1, some (.int (-13)))
  else
    q_ix x1 3 (fun j3 =>
    q_go e_93 X O n 46 [(2, .int x2), (3, .long x3)] [.ref (q_rf 60 j3)] h1)) := by rfl
set_option maxRecDepth 20000 in
theorem b93_46 (X : q_X) (O : q_O) (n : Nat) (h : q_S) (x2 : Int32) (x3 : Int64) : q_go e_93 X O (n + 1) 46 [(2, .int x2), (3, .long x3)] [.ref 61] h =
  q_c0 (O 52 h [.ref 61, .int x2, .long x3]) (fun h1 =>
  some (h1, some (.int 1))) := by rfl
set_option maxRecDepth 20000 in
theorem b93_46_1 (X : q_X) (O : q_O) (n : Nat) (h : q_S) (x2 : Int32) (x3 : Int64) : q_go e_93 X O (n + 1) 46 [(2, .int x2), (3, .long x3)] [.ref 62] h =
  q_c0 (O 52 h [.ref 62, .int x2, .long x3]) (fun h1 =>
  some (h1, some (.int 1))) := by rfl
set_option maxRecDepth 20000 in
theorem b93_46_2 (X : q_X) (O : q_O) (n : Nat) (h : q_S) (x2 : Int32) (x3 : Int64) : q_go e_93 X O (n + 1) 46 [(2, .int x2), (3, .long x3)] [.ref 63] h =
  q_c0 (O 52 h [.ref 63, .int x2, .long x3]) (fun h1 =>
  some (h1, some (.int 1))) := by rfl
-- WhirlShafts.get(II)J with (0, None, None)
set_option maxRecDepth 20000 in
theorem b94_0 (X : q_X) (O : q_O) (n : Nat) (h : q_S) (x1 : Int32) (x2 : Int32) : q_go e_94 X O (n + 1) 0 [(0, .ref 0), (1, .int x1), (2, .int x2)] [] h =
  q_c1 (O 109 h [.int x1]) (fun h1 v2 =>
  if v2 = 0 then
    some (h1, some (.long (Int64.ofNat 9223372036854775808)))
  else
    q_ix x1 3 (fun j3 =>
    q_go e_94 X O n 13 [(0, .ref 0), (1, .int x1), (2, .int x2)] [.ref (q_rf 60 j3)] h1)) := by rfl
set_option maxRecDepth 20000 in
theorem b94_13 (X : q_X) (O : q_O) (n : Nat) (h : q_S) (x1 : Int32) (x2 : Int32) : q_go e_94 X O (n + 1) 13 [(0, .ref 0), (1, .int x1), (2, .int x2)] [.ref 61] h =
  q_c1 (O 50 h [.ref 61, .int x2]) (fun h1 v2 =>
  if v2 = 0 then
    some (h1, some (.long (Int64.ofNat 9223372036854775808)))
  else
    q_ix x1 3 (fun j3 =>
    q_go e_94 X O n 26 [(2, .int x2)] [.ref (q_rf 60 j3)] h1)) := by rfl
set_option maxRecDepth 20000 in
theorem b94_13_1 (X : q_X) (O : q_O) (n : Nat) (h : q_S) (x1 : Int32) (x2 : Int32) : q_go e_94 X O (n + 1) 13 [(0, .ref 0), (1, .int x1), (2, .int x2)] [.ref 62] h =
  q_c1 (O 50 h [.ref 62, .int x2]) (fun h1 v2 =>
  if v2 = 0 then
    some (h1, some (.long (Int64.ofNat 9223372036854775808)))
  else
    q_ix x1 3 (fun j3 =>
    q_go e_94 X O n 26 [(2, .int x2)] [.ref (q_rf 60 j3)] h1)) := by rfl
set_option maxRecDepth 20000 in
theorem b94_13_2 (X : q_X) (O : q_O) (n : Nat) (h : q_S) (x1 : Int32) (x2 : Int32) : q_go e_94 X O (n + 1) 13 [(0, .ref 0), (1, .int x1), (2, .int x2)] [.ref 63] h =
  q_c1 (O 50 h [.ref 63, .int x2]) (fun h1 v2 =>
  if v2 = 0 then
    some (h1, some (.long (Int64.ofNat 9223372036854775808)))
  else
    q_ix x1 3 (fun j3 =>
    q_go e_94 X O n 26 [(2, .int x2)] [.ref (q_rf 60 j3)] h1)) := by rfl
set_option maxRecDepth 20000 in
theorem b94_26 (X : q_X) (O : q_O) (n : Nat) (h : q_S) (x2 : Int32) : q_go e_94 X O (n + 1) 26 [(2, .int x2)] [.ref 61] h =
  q_ix x2 40 (fun j1 =>
  some (h, some (.long (h.2.1 64 j1)))) := by rfl
set_option maxRecDepth 20000 in
theorem b94_26_1 (X : q_X) (O : q_O) (n : Nat) (h : q_S) (x2 : Int32) : q_go e_94 X O (n + 1) 26 [(2, .int x2)] [.ref 62] h =
  q_ix x2 40 (fun j1 =>
  some (h, some (.long (h.2.1 65 j1)))) := by rfl
set_option maxRecDepth 20000 in
theorem b94_26_2 (X : q_X) (O : q_O) (n : Nat) (h : q_S) (x2 : Int32) : q_go e_94 X O (n + 1) 26 [(2, .int x2)] [.ref 63] h =
  q_ix x2 40 (fun j1 =>
  some (h, some (.long (h.2.1 66 j1)))) := by rfl
-- WhirlShafts.film(III)I with (0, None, None, None)
set_option maxRecDepth 20000 in
theorem b95_0 (X : q_X) (O : q_O) (n : Nat) (h : q_S) (x1 : Int32) (x2 : Int32) (x3 : Int32) : q_go e_95 X O (n + 1) 0 [(0, .ref 0), (1, .int x1), (2, .int x2), (3, .int x3)] [] h =
  q_c1 (O 109 h [.int x1]) (fun h1 v2 =>
  if v2 = 0 then
    some (h1, some (.int (-1)))
  else
    if x2 < 0 then
      some (h1, some (.int (-1)))
    else
      if 2 < x2 then
        some (h1, some (.int (-1)))
      else
        q_c1 (O 106 h1 [.int x3]) (fun h3 v4 =>
        if v4 = 0 then
          some (h3, some (.int (-1)))
        else
          q_c0 (O 36 h3 [.ref 43, .ref 12]) (fun h5 =>
          q_ix x1 3 (fun j6 =>
          q_go e_95 X O n 42 [(0, .ref 0), (1, .int x1), (2, .int x2), (3, .int x3)] [.ref (q_rf 60 j6)] h5)))) := by rfl
set_option maxRecDepth 20000 in
theorem b95_42 (X : q_X) (O : q_O) (n : Nat) (h : q_S) (x1 : Int32) (x2 : Int32) (x3 : Int32) : q_go e_95 X O (n + 1) 42 [(0, .ref 0), (1, .int x1), (2, .int x2), (3, .int x3)] [.ref 61] h =
  q_c0 (O 49 h [.ref 61, .int x2, .int (h.1 12 6)]) (fun h1 =>
  q_go e_95 X O n 56 [(0, .ref 0), (1, .int x1), (3, .int x3), (4, .int 0)] [] h1) := by rfl
set_option maxRecDepth 20000 in
theorem b95_42_1 (X : q_X) (O : q_O) (n : Nat) (h : q_S) (x1 : Int32) (x2 : Int32) (x3 : Int32) : q_go e_95 X O (n + 1) 42 [(0, .ref 0), (1, .int x1), (2, .int x2), (3, .int x3)] [.ref 62] h =
  q_c0 (O 49 h [.ref 62, .int x2, .int (h.1 12 6)]) (fun h1 =>
  q_go e_95 X O n 56 [(0, .ref 0), (1, .int x1), (3, .int x3), (4, .int 0)] [] h1) := by rfl
set_option maxRecDepth 20000 in
theorem b95_42_2 (X : q_X) (O : q_O) (n : Nat) (h : q_S) (x1 : Int32) (x2 : Int32) (x3 : Int32) : q_go e_95 X O (n + 1) 42 [(0, .ref 0), (1, .int x1), (2, .int x2), (3, .int x3)] [.ref 63] h =
  q_c0 (O 49 h [.ref 63, .int x2, .int (h.1 12 6)]) (fun h1 =>
  q_go e_95 X O n 56 [(0, .ref 0), (1, .int x1), (3, .int x3), (4, .int 0)] [] h1) := by rfl
set_option maxRecDepth 20000 in
theorem b95_56 (X : q_X) (O : q_O) (n : Nat) (h : q_S) (x1 : Int32) (x3 : Int32) (x4 : Int32) : q_go e_95 X O (n + 1) 56 [(0, .ref 0), (1, .int x1), (3, .int x3), (4, .int x4)] [] h =
  if x4 < (h.1 12 6) then
    q_ix x1 3 (fun j1 =>
    q_go e_95 X O n 74 [(0, .ref 0), (1, .int x1), (3, .int x3), (4, .int x4)] [.ref (q_rf 60 j1)] h)
  else
    some (h, some (.int (h.1 12 6))) := by rfl
set_option maxRecDepth 20000 in
theorem b95_74 (X : q_X) (O : q_O) (n : Nat) (h : q_S) (x1 : Int32) (x3 : Int32) (x4 : Int32) : q_go e_95 X O (n + 1) 74 [(0, .ref 0), (1, .int x1), (3, .int x3), (4, .int x4)] [.ref 61] h =
  q_c1 (O 43 h [.ref 43, .int x4, .int x3]) (fun h1 v2 =>
  q_c0 (O 52 h1 [.ref 61, .int x4, .long (((v2 : Int32)).toInt64)]) (fun h3 =>
  q_go e_95 X O n 56 [(0, .ref 0), (1, .int x1), (3, .int x3), (4, .int (x4 + 1))] [] h3)) := by rfl
set_option maxRecDepth 20000 in
theorem b95_74_1 (X : q_X) (O : q_O) (n : Nat) (h : q_S) (x1 : Int32) (x3 : Int32) (x4 : Int32) : q_go e_95 X O (n + 1) 74 [(0, .ref 0), (1, .int x1), (3, .int x3), (4, .int x4)] [.ref 62] h =
  q_c1 (O 43 h [.ref 43, .int x4, .int x3]) (fun h1 v2 =>
  q_c0 (O 52 h1 [.ref 62, .int x4, .long (((v2 : Int32)).toInt64)]) (fun h3 =>
  q_go e_95 X O n 56 [(0, .ref 0), (1, .int x1), (3, .int x3), (4, .int (x4 + 1))] [] h3)) := by rfl
set_option maxRecDepth 20000 in
theorem b95_74_2 (X : q_X) (O : q_O) (n : Nat) (h : q_S) (x1 : Int32) (x3 : Int32) (x4 : Int32) : q_go e_95 X O (n + 1) 74 [(0, .ref 0), (1, .int x1), (3, .int x3), (4, .int x4)] [.ref 63] h =
  q_c1 (O 43 h [.ref 43, .int x4, .int x3]) (fun h1 v2 =>
  q_c0 (O 52 h1 [.ref 63, .int x4, .long (((v2 : Int32)).toInt64)]) (fun h3 =>
  q_go e_95 X O n 56 [(0, .ref 0), (1, .int x1), (3, .int x3), (4, .int (x4 + 1))] [] h3)) := by rfl
-- WhirlShafts.copy(IIIII)I with (0, None, None, None, None, None)
set_option maxRecDepth 20000 in
theorem b96_0 (X : q_X) (O : q_O) (n : Nat) (h : q_S) (x1 : Int32) (x2 : Int32) (x3 : Int32) (x4 : Int32) (x5 : Int32) : q_go e_96 X O (n + 1) 0 [(0, .ref 0), (1, .int x1), (2, .int x2), (3, .int x3), (4, .int x4), (5, .int x5)] [] h =
  q_c1 (O 109 h [.int x1]) (fun h1 v2 =>
  if v2 = 0 then
    some (h1, some (.int (-1)))
  else
    q_c1 (O 109 h1 [.int x3]) (fun h3 v4 =>
    if v4 = 0 then
      some (h3, some (.int (-1)))
    else
      q_ix x1 3 (fun j5 =>
      q_go e_96 X O n 22 [(0, .ref 0), (2, .int x2), (3, .int x3), (4, .int x4), (5, .int x5)] [.ref (q_rf 60 j5)] h3))) := by rfl
set_option maxRecDepth 20000 in
theorem b96_22 (X : q_X) (O : q_O) (n : Nat) (h : q_S) (x2 : Int32) (x3 : Int32) (x4 : Int32) (x5 : Int32) : q_go e_96 X O (n + 1) 22 [(0, .ref 0), (2, .int x2), (3, .int x3), (4, .int x4), (5, .int x5)] [.ref 61] h =
  q_ix x3 3 (fun j1 =>
  q_go e_96 X O n 30 [(2, .int x2), (4, .int x4), (5, .int x5), (6, .ref 61)] [.ref (q_rf 60 j1)] h) := by rfl
set_option maxRecDepth 20000 in
theorem b96_22_1 (X : q_X) (O : q_O) (n : Nat) (h : q_S) (x2 : Int32) (x3 : Int32) (x4 : Int32) (x5 : Int32) : q_go e_96 X O (n + 1) 22 [(0, .ref 0), (2, .int x2), (3, .int x3), (4, .int x4), (5, .int x5)] [.ref 62] h =
  q_ix x3 3 (fun j1 =>
  q_go e_96 X O n 30 [(2, .int x2), (4, .int x4), (5, .int x5), (6, .ref 62)] [.ref (q_rf 60 j1)] h) := by rfl
set_option maxRecDepth 20000 in
theorem b96_22_2 (X : q_X) (O : q_O) (n : Nat) (h : q_S) (x2 : Int32) (x3 : Int32) (x4 : Int32) (x5 : Int32) : q_go e_96 X O (n + 1) 22 [(0, .ref 0), (2, .int x2), (3, .int x3), (4, .int x4), (5, .int x5)] [.ref 63] h =
  q_ix x3 3 (fun j1 =>
  q_go e_96 X O n 30 [(2, .int x2), (4, .int x4), (5, .int x5), (6, .ref 63)] [.ref (q_rf 60 j1)] h) := by rfl
set_option maxRecDepth 20000 in
theorem b96_30 (X : q_X) (O : q_O) (n : Nat) (h : q_S) (x2 : Int32) (x4 : Int32) (x5 : Int32) : q_go e_96 X O (n + 1) 30 [(2, .int x2), (4, .int x4), (5, .int x5), (6, .ref 61)] [.ref 61] h =
  q_c1 (O 48 h [.ref 61]) (fun h1 v2 =>
  if v2 = 0 then
    q_c1 (O 48 h1 [.ref 61]) (fun h3 v4 =>
    if v4 = 0 then
      if (h3.1 61 1) = (h3.1 61 1) then
        q_c1 (O 51 h3 [.ref 61, .int x2, .int x5]) (fun h5 v6 =>
        if v6 = 0 then
          some (h5, some (.int (-13)))
        else
          q_c1 (O 51 h5 [.ref 61, .int x4, .int x5]) (fun h7 v8 =>
          if v8 = 0 then
            some (h7, some (.int (-13)))
          else
            q_arc h7 64 x2 64 x4 x5 (fun h9 =>
            some (h9, some (.int x5)))))
      else
        some (h3, some (.int (-12)))
    else
      some (h3, some (.int (-11))))
  else
    some (h1, some (.int (-11)))) := by rfl
set_option maxRecDepth 20000 in
theorem b96_30_1 (X : q_X) (O : q_O) (n : Nat) (h : q_S) (x2 : Int32) (x4 : Int32) (x5 : Int32) : q_go e_96 X O (n + 1) 30 [(2, .int x2), (4, .int x4), (5, .int x5), (6, .ref 61)] [.ref 62] h =
  q_c1 (O 48 h [.ref 61]) (fun h1 v2 =>
  if v2 = 0 then
    q_c1 (O 48 h1 [.ref 62]) (fun h3 v4 =>
    if v4 = 0 then
      if (h3.1 61 1) = (h3.1 62 1) then
        q_c1 (O 51 h3 [.ref 61, .int x2, .int x5]) (fun h5 v6 =>
        if v6 = 0 then
          some (h5, some (.int (-13)))
        else
          q_c1 (O 51 h5 [.ref 62, .int x4, .int x5]) (fun h7 v8 =>
          if v8 = 0 then
            some (h7, some (.int (-13)))
          else
            q_arc h7 64 x2 65 x4 x5 (fun h9 =>
            some (h9, some (.int x5)))))
      else
        some (h3, some (.int (-12)))
    else
      some (h3, some (.int (-11))))
  else
    some (h1, some (.int (-11)))) := by rfl
set_option maxRecDepth 20000 in
theorem b96_30_2 (X : q_X) (O : q_O) (n : Nat) (h : q_S) (x2 : Int32) (x4 : Int32) (x5 : Int32) : q_go e_96 X O (n + 1) 30 [(2, .int x2), (4, .int x4), (5, .int x5), (6, .ref 61)] [.ref 63] h =
  q_c1 (O 48 h [.ref 61]) (fun h1 v2 =>
  if v2 = 0 then
    q_c1 (O 48 h1 [.ref 63]) (fun h3 v4 =>
    if v4 = 0 then
      if (h3.1 61 1) = (h3.1 63 1) then
        q_c1 (O 51 h3 [.ref 61, .int x2, .int x5]) (fun h5 v6 =>
        if v6 = 0 then
          some (h5, some (.int (-13)))
        else
          q_c1 (O 51 h5 [.ref 63, .int x4, .int x5]) (fun h7 v8 =>
          if v8 = 0 then
            some (h7, some (.int (-13)))
          else
            q_arc h7 64 x2 66 x4 x5 (fun h9 =>
            some (h9, some (.int x5)))))
      else
        some (h3, some (.int (-12)))
    else
      some (h3, some (.int (-11))))
  else
    some (h1, some (.int (-11)))) := by rfl
set_option maxRecDepth 20000 in
theorem b96_30_3 (X : q_X) (O : q_O) (n : Nat) (h : q_S) (x2 : Int32) (x4 : Int32) (x5 : Int32) : q_go e_96 X O (n + 1) 30 [(2, .int x2), (4, .int x4), (5, .int x5), (6, .ref 62)] [.ref 61] h =
  q_c1 (O 48 h [.ref 62]) (fun h1 v2 =>
  if v2 = 0 then
    q_c1 (O 48 h1 [.ref 61]) (fun h3 v4 =>
    if v4 = 0 then
      if (h3.1 62 1) = (h3.1 61 1) then
        q_c1 (O 51 h3 [.ref 62, .int x2, .int x5]) (fun h5 v6 =>
        if v6 = 0 then
          some (h5, some (.int (-13)))
        else
          q_c1 (O 51 h5 [.ref 61, .int x4, .int x5]) (fun h7 v8 =>
          if v8 = 0 then
            some (h7, some (.int (-13)))
          else
            q_arc h7 65 x2 64 x4 x5 (fun h9 =>
            some (h9, some (.int x5)))))
      else
        some (h3, some (.int (-12)))
    else
      some (h3, some (.int (-11))))
  else
    some (h1, some (.int (-11)))) := by rfl
set_option maxRecDepth 20000 in
theorem b96_30_4 (X : q_X) (O : q_O) (n : Nat) (h : q_S) (x2 : Int32) (x4 : Int32) (x5 : Int32) : q_go e_96 X O (n + 1) 30 [(2, .int x2), (4, .int x4), (5, .int x5), (6, .ref 62)] [.ref 62] h =
  q_c1 (O 48 h [.ref 62]) (fun h1 v2 =>
  if v2 = 0 then
    q_c1 (O 48 h1 [.ref 62]) (fun h3 v4 =>
    if v4 = 0 then
      if (h3.1 62 1) = (h3.1 62 1) then
        q_c1 (O 51 h3 [.ref 62, .int x2, .int x5]) (fun h5 v6 =>
        if v6 = 0 then
          some (h5, some (.int (-13)))
        else
          q_c1 (O 51 h5 [.ref 62, .int x4, .int x5]) (fun h7 v8 =>
          if v8 = 0 then
            some (h7, some (.int (-13)))
          else
            q_arc h7 65 x2 65 x4 x5 (fun h9 =>
            some (h9, some (.int x5)))))
      else
        some (h3, some (.int (-12)))
    else
      some (h3, some (.int (-11))))
  else
    some (h1, some (.int (-11)))) := by rfl
set_option maxRecDepth 20000 in
theorem b96_30_5 (X : q_X) (O : q_O) (n : Nat) (h : q_S) (x2 : Int32) (x4 : Int32) (x5 : Int32) : q_go e_96 X O (n + 1) 30 [(2, .int x2), (4, .int x4), (5, .int x5), (6, .ref 62)] [.ref 63] h =
  q_c1 (O 48 h [.ref 62]) (fun h1 v2 =>
  if v2 = 0 then
    q_c1 (O 48 h1 [.ref 63]) (fun h3 v4 =>
    if v4 = 0 then
      if (h3.1 62 1) = (h3.1 63 1) then
        q_c1 (O 51 h3 [.ref 62, .int x2, .int x5]) (fun h5 v6 =>
        if v6 = 0 then
          some (h5, some (.int (-13)))
        else
          q_c1 (O 51 h5 [.ref 63, .int x4, .int x5]) (fun h7 v8 =>
          if v8 = 0 then
            some (h7, some (.int (-13)))
          else
            q_arc h7 65 x2 66 x4 x5 (fun h9 =>
            some (h9, some (.int x5)))))
      else
        some (h3, some (.int (-12)))
    else
      some (h3, some (.int (-11))))
  else
    some (h1, some (.int (-11)))) := by rfl
set_option maxRecDepth 20000 in
theorem b96_30_6 (X : q_X) (O : q_O) (n : Nat) (h : q_S) (x2 : Int32) (x4 : Int32) (x5 : Int32) : q_go e_96 X O (n + 1) 30 [(2, .int x2), (4, .int x4), (5, .int x5), (6, .ref 63)] [.ref 61] h =
  q_c1 (O 48 h [.ref 63]) (fun h1 v2 =>
  if v2 = 0 then
    q_c1 (O 48 h1 [.ref 61]) (fun h3 v4 =>
    if v4 = 0 then
      if (h3.1 63 1) = (h3.1 61 1) then
        q_c1 (O 51 h3 [.ref 63, .int x2, .int x5]) (fun h5 v6 =>
        if v6 = 0 then
          some (h5, some (.int (-13)))
        else
          q_c1 (O 51 h5 [.ref 61, .int x4, .int x5]) (fun h7 v8 =>
          if v8 = 0 then
            some (h7, some (.int (-13)))
          else
            q_arc h7 66 x2 64 x4 x5 (fun h9 =>
            some (h9, some (.int x5)))))
      else
        some (h3, some (.int (-12)))
    else
      some (h3, some (.int (-11))))
  else
    some (h1, some (.int (-11)))) := by rfl
set_option maxRecDepth 20000 in
theorem b96_30_7 (X : q_X) (O : q_O) (n : Nat) (h : q_S) (x2 : Int32) (x4 : Int32) (x5 : Int32) : q_go e_96 X O (n + 1) 30 [(2, .int x2), (4, .int x4), (5, .int x5), (6, .ref 63)] [.ref 62] h =
  q_c1 (O 48 h [.ref 63]) (fun h1 v2 =>
  if v2 = 0 then
    q_c1 (O 48 h1 [.ref 62]) (fun h3 v4 =>
    if v4 = 0 then
      if (h3.1 63 1) = (h3.1 62 1) then
        q_c1 (O 51 h3 [.ref 63, .int x2, .int x5]) (fun h5 v6 =>
        if v6 = 0 then
          some (h5, some (.int (-13)))
        else
          q_c1 (O 51 h5 [.ref 62, .int x4, .int x5]) (fun h7 v8 =>
          if v8 = 0 then
            some (h7, some (.int (-13)))
          else
            q_arc h7 66 x2 65 x4 x5 (fun h9 =>
            some (h9, some (.int x5)))))
      else
        some (h3, some (.int (-12)))
    else
      some (h3, some (.int (-11))))
  else
    some (h1, some (.int (-11)))) := by rfl
set_option maxRecDepth 20000 in
theorem b96_30_8 (X : q_X) (O : q_O) (n : Nat) (h : q_S) (x2 : Int32) (x4 : Int32) (x5 : Int32) : q_go e_96 X O (n + 1) 30 [(2, .int x2), (4, .int x4), (5, .int x5), (6, .ref 63)] [.ref 63] h =
  q_c1 (O 48 h [.ref 63]) (fun h1 v2 =>
  if v2 = 0 then
    q_c1 (O 48 h1 [.ref 63]) (fun h3 v4 =>
    if v4 = 0 then
      if (h3.1 63 1) = (h3.1 63 1) then
        q_c1 (O 51 h3 [.ref 63, .int x2, .int x5]) (fun h5 v6 =>
        if v6 = 0 then
          some (h5, some (.int (-13)))
        else
          q_c1 (O 51 h5 [.ref 63, .int x4, .int x5]) (fun h7 v8 =>
          if v8 = 0 then
            some (h7, some (.int (-13)))
          else
            q_arc h7 66 x2 66 x4 x5 (fun h9 =>
            some (h9, some (.int x5)))))
      else
        some (h3, some (.int (-12)))
    else
      some (h3, some (.int (-11))))
  else
    some (h1, some (.int (-11)))) := by rfl
-- WhirlShafts.act(III)I with (0, None, None, None)
set_option maxRecDepth 20000 in
theorem b97_0 (X : q_X) (O : q_O) (n : Nat) (h : q_S) (x1 : Int32) (x2 : Int32) (x3 : Int32) : q_go e_97 X O (n + 1) 0 [(0, .ref 0), (1, .int x1), (2, .int x2), (3, .int x3)] [] h =
  q_c1 (O 19 h [.ref 12, .int x1]) (fun h1 v2 =>
  if v2 = 0 then
    some (h1, some (.int 0))
  else
    if x2 < 0 then
      some (h1, some (.int 0))
    else
      if 2 < x2 then
        some (h1, some (.int 0))
      else
        q_ix x1 8 (fun j3 =>
        q_ix (h1.1 13 j3) 5 (fun j4 =>
        q_go e_97 X O n 37 [(0, .ref 0), (1, .int x1), (2, .int x2), (3, .int x3)] [.ref (q_rf 1 j4), .ref 0] h1))) := by rfl
set_option maxRecDepth 20000 in
theorem b97_37 (X : q_X) (O : q_O) (n : Nat) (h : q_S) (x1 : Int32) (x2 : Int32) (x3 : Int32) : q_go e_97 X O (n + 1) 37 [(0, .ref 0), (1, .int x1), (2, .int x2), (3, .int x3)] [.ref 2, .ref 0] h =
  q_go e_97 X O n 44 [(0, .ref 0), (1, .int x1), (2, .int x2), (3, .int x3)] [.ref 2] (h.1, h.2.1, some 2) := by rfl
set_option maxRecDepth 20000 in
theorem b97_37_1 (X : q_X) (O : q_O) (n : Nat) (h : q_S) (x1 : Int32) (x2 : Int32) (x3 : Int32) : q_go e_97 X O (n + 1) 37 [(0, .ref 0), (1, .int x1), (2, .int x2), (3, .int x3)] [.ref 3, .ref 0] h =
  q_go e_97 X O n 44 [(0, .ref 0), (1, .int x1), (2, .int x2), (3, .int x3)] [.ref 3] (h.1, h.2.1, some 3) := by rfl
set_option maxRecDepth 20000 in
theorem b97_37_2 (X : q_X) (O : q_O) (n : Nat) (h : q_S) (x1 : Int32) (x2 : Int32) (x3 : Int32) : q_go e_97 X O (n + 1) 37 [(0, .ref 0), (1, .int x1), (2, .int x2), (3, .int x3)] [.ref 4, .ref 0] h =
  q_go e_97 X O n 44 [(0, .ref 0), (1, .int x1), (2, .int x2), (3, .int x3)] [.ref 4] (h.1, h.2.1, some 4) := by rfl
set_option maxRecDepth 20000 in
theorem b97_37_3 (X : q_X) (O : q_O) (n : Nat) (h : q_S) (x1 : Int32) (x2 : Int32) (x3 : Int32) : q_go e_97 X O (n + 1) 37 [(0, .ref 0), (1, .int x1), (2, .int x2), (3, .int x3)] [.ref 5, .ref 0] h =
  q_go e_97 X O n 44 [(0, .ref 0), (1, .int x1), (2, .int x2), (3, .int x3)] [.ref 5] (h.1, h.2.1, some 5) := by rfl
set_option maxRecDepth 20000 in
theorem b97_37_4 (X : q_X) (O : q_O) (n : Nat) (h : q_S) (x1 : Int32) (x2 : Int32) (x3 : Int32) : q_go e_97 X O (n + 1) 37 [(0, .ref 0), (1, .int x1), (2, .int x2), (3, .int x3)] [.ref 6, .ref 0] h =
  q_go e_97 X O n 44 [(0, .ref 0), (1, .int x1), (2, .int x2), (3, .int x3)] [.ref 6] (h.1, h.2.1, some 6) := by rfl
set_option maxRecDepth 20000 in
theorem b97_44 (X : q_X) (O : q_O) (n : Nat) (h : q_S) (x1 : Int32) (x2 : Int32) (x3 : Int32) : q_go e_97 X O (n + 1) 44 [(0, .ref 0), (1, .int x1), (2, .int x2), (3, .int x3)] [.ref 2] h =
  q_ix x1 8 (fun j1 =>
  q_c0 (O 8 h [.ref 2, .int x1, .int (h.1 14 j1)]) (fun h2 =>
  if x2 = 0 then
    q_go e_97 X O n 88 [(3, .int x3)] [(q_rv h2.2.2)] h2
  else if x2 = 1 then
    q_go e_97 X O n 97 [(3, .int x3)] [(q_rv h2.2.2)] h2
  else 
    q_go e_97 X O n 106 [(3, .int x3)] [(q_rv h2.2.2)] h2)) := by rfl
set_option maxRecDepth 20000 in
theorem b97_44_1 (X : q_X) (O : q_O) (n : Nat) (h : q_S) (x1 : Int32) (x2 : Int32) (x3 : Int32) : q_go e_97 X O (n + 1) 44 [(0, .ref 0), (1, .int x1), (2, .int x2), (3, .int x3)] [.ref 3] h =
  q_ix x1 8 (fun j1 =>
  q_c0 (O 8 h [.ref 3, .int x1, .int (h.1 14 j1)]) (fun h2 =>
  if x2 = 0 then
    q_go e_97 X O n 88 [(3, .int x3)] [(q_rv h2.2.2)] h2
  else if x2 = 1 then
    q_go e_97 X O n 97 [(3, .int x3)] [(q_rv h2.2.2)] h2
  else 
    q_go e_97 X O n 106 [(3, .int x3)] [(q_rv h2.2.2)] h2)) := by rfl
set_option maxRecDepth 20000 in
theorem b97_44_2 (X : q_X) (O : q_O) (n : Nat) (h : q_S) (x1 : Int32) (x2 : Int32) (x3 : Int32) : q_go e_97 X O (n + 1) 44 [(0, .ref 0), (1, .int x1), (2, .int x2), (3, .int x3)] [.ref 4] h =
  q_ix x1 8 (fun j1 =>
  q_c0 (O 8 h [.ref 4, .int x1, .int (h.1 14 j1)]) (fun h2 =>
  if x2 = 0 then
    q_go e_97 X O n 88 [(3, .int x3)] [(q_rv h2.2.2)] h2
  else if x2 = 1 then
    q_go e_97 X O n 97 [(3, .int x3)] [(q_rv h2.2.2)] h2
  else 
    q_go e_97 X O n 106 [(3, .int x3)] [(q_rv h2.2.2)] h2)) := by rfl
set_option maxRecDepth 20000 in
theorem b97_44_3 (X : q_X) (O : q_O) (n : Nat) (h : q_S) (x1 : Int32) (x2 : Int32) (x3 : Int32) : q_go e_97 X O (n + 1) 44 [(0, .ref 0), (1, .int x1), (2, .int x2), (3, .int x3)] [.ref 5] h =
  q_ix x1 8 (fun j1 =>
  q_c0 (O 8 h [.ref 5, .int x1, .int (h.1 14 j1)]) (fun h2 =>
  if x2 = 0 then
    q_go e_97 X O n 88 [(3, .int x3)] [(q_rv h2.2.2)] h2
  else if x2 = 1 then
    q_go e_97 X O n 97 [(3, .int x3)] [(q_rv h2.2.2)] h2
  else 
    q_go e_97 X O n 106 [(3, .int x3)] [(q_rv h2.2.2)] h2)) := by rfl
set_option maxRecDepth 20000 in
theorem b97_44_4 (X : q_X) (O : q_O) (n : Nat) (h : q_S) (x1 : Int32) (x2 : Int32) (x3 : Int32) : q_go e_97 X O (n + 1) 44 [(0, .ref 0), (1, .int x1), (2, .int x2), (3, .int x3)] [.ref 6] h =
  q_ix x1 8 (fun j1 =>
  q_c0 (O 8 h [.ref 6, .int x1, .int (h.1 14 j1)]) (fun h2 =>
  if x2 = 0 then
    q_go e_97 X O n 88 [(3, .int x3)] [(q_rv h2.2.2)] h2
  else if x2 = 1 then
    q_go e_97 X O n 97 [(3, .int x3)] [(q_rv h2.2.2)] h2
  else 
    q_go e_97 X O n 106 [(3, .int x3)] [(q_rv h2.2.2)] h2)) := by rfl
set_option maxRecDepth 20000 in
theorem b97_88 (X : q_X) (O : q_O) (n : Nat) (h : q_S) (x3 : Int32) : q_go e_97 X O (n + 1) 88 [(3, .int x3)] [.ref 2] h =
  q_c1 (O 11 h [.ref 2, .int x3]) (fun h1 v2 =>
  some (h1, some (.int v2))) := by rfl
set_option maxRecDepth 20000 in
theorem b97_88_1 (X : q_X) (O : q_O) (n : Nat) (h : q_S) (x3 : Int32) : q_go e_97 X O (n + 1) 88 [(3, .int x3)] [.ref 3] h =
  q_c1 (O 11 h [.ref 3, .int x3]) (fun h1 v2 =>
  some (h1, some (.int v2))) := by rfl
set_option maxRecDepth 20000 in
theorem b97_88_2 (X : q_X) (O : q_O) (n : Nat) (h : q_S) (x3 : Int32) : q_go e_97 X O (n + 1) 88 [(3, .int x3)] [.ref 4] h =
  q_c1 (O 15 h [.ref 4, .int x3]) (fun h1 v2 =>
  some (h1, some (.int v2))) := by rfl
set_option maxRecDepth 20000 in
theorem b97_88_3 (X : q_X) (O : q_O) (n : Nat) (h : q_S) (x3 : Int32) : q_go e_97 X O (n + 1) 88 [(3, .int x3)] [.ref 5] h =
  q_c1 (O 7 h [.ref 5, .int x3]) (fun h1 v2 =>
  some (h1, some (.int v2))) := by rfl
set_option maxRecDepth 20000 in
theorem b97_88_4 (X : q_X) (O : q_O) (n : Nat) (h : q_S) (x3 : Int32) : q_go e_97 X O (n + 1) 88 [(3, .int x3)] [.ref 6] h =
  q_c1 (O 15 h [.ref 6, .int x3]) (fun h1 v2 =>
  some (h1, some (.int v2))) := by rfl
set_option maxRecDepth 20000 in
theorem b97_88_5 (X : q_X) (O : q_O) (n : Nat) (h : q_S) (x3 : Int32) : q_go e_97 X O (n + 1) 88 [(3, .int x3)] [.null] h =
  none := by rfl
set_option maxRecDepth 20000 in
theorem b97_97 (X : q_X) (O : q_O) (n : Nat) (h : q_S) (x3 : Int32) : q_go e_97 X O (n + 1) 97 [(3, .int x3)] [.ref 2] h =
  q_c1 (O 12 h [.ref 2, .int x3]) (fun h1 v2 =>
  some (h1, some (.int v2))) := by rfl
set_option maxRecDepth 20000 in
theorem b97_97_1 (X : q_X) (O : q_O) (n : Nat) (h : q_S) (x3 : Int32) : q_go e_97 X O (n + 1) 97 [(3, .int x3)] [.ref 3] h =
  q_c1 (O 47 h [.ref 3, .int x3]) (fun h1 v2 =>
  some (h1, some (.int v2))) := by rfl
set_option maxRecDepth 20000 in
theorem b97_97_2 (X : q_X) (O : q_O) (n : Nat) (h : q_S) (x3 : Int32) : q_go e_97 X O (n + 1) 97 [(3, .int x3)] [.ref 4] h =
  q_c1 (O 12 h [.ref 4, .int x3]) (fun h1 v2 =>
  some (h1, some (.int v2))) := by rfl
set_option maxRecDepth 20000 in
theorem b97_97_3 (X : q_X) (O : q_O) (n : Nat) (h : q_S) (x3 : Int32) : q_go e_97 X O (n + 1) 97 [(3, .int x3)] [.ref 5] h =
  q_c1 (O 47 h [.ref 5, .int x3]) (fun h1 v2 =>
  some (h1, some (.int v2))) := by rfl
set_option maxRecDepth 20000 in
theorem b97_97_4 (X : q_X) (O : q_O) (n : Nat) (h : q_S) (x3 : Int32) : q_go e_97 X O (n + 1) 97 [(3, .int x3)] [.ref 6] h =
  q_c1 (O 54 h [.ref 6, .int x3]) (fun h1 v2 =>
  some (h1, some (.int v2))) := by rfl
set_option maxRecDepth 20000 in
theorem b97_97_5 (X : q_X) (O : q_O) (n : Nat) (h : q_S) (x3 : Int32) : q_go e_97 X O (n + 1) 97 [(3, .int x3)] [.null] h =
  none := by rfl
set_option maxRecDepth 20000 in
theorem b97_106 (X : q_X) (O : q_O) (n : Nat) (h : q_S) (x3 : Int32) : q_go e_97 X O (n + 1) 106 [(3, .int x3)] [.ref 2] h =
  q_c1 (O 13 h [.ref 2, .int x3]) (fun h1 v2 =>
  some (h1, some (.int v2))) := by rfl
set_option maxRecDepth 20000 in
theorem b97_106_1 (X : q_X) (O : q_O) (n : Nat) (h : q_S) (x3 : Int32) : q_go e_97 X O (n + 1) 106 [(3, .int x3)] [.ref 3] h =
  q_c1 (O 13 h [.ref 3, .int x3]) (fun h1 v2 =>
  some (h1, some (.int v2))) := by rfl
set_option maxRecDepth 20000 in
theorem b97_106_2 (X : q_X) (O : q_O) (n : Nat) (h : q_S) (x3 : Int32) : q_go e_97 X O (n + 1) 106 [(3, .int x3)] [.ref 4] h =
  q_c1 (O 13 h [.ref 4, .int x3]) (fun h1 v2 =>
  some (h1, some (.int v2))) := by rfl
set_option maxRecDepth 20000 in
theorem b97_106_3 (X : q_X) (O : q_O) (n : Nat) (h : q_S) (x3 : Int32) : q_go e_97 X O (n + 1) 106 [(3, .int x3)] [.ref 5] h =
  q_c1 (O 6 h [.ref 5, .int x3]) (fun h1 v2 =>
  some (h1, some (.int v2))) := by rfl
set_option maxRecDepth 20000 in
theorem b97_106_4 (X : q_X) (O : q_O) (n : Nat) (h : q_S) (x3 : Int32) : q_go e_97 X O (n + 1) 106 [(3, .int x3)] [.ref 6] h =
  q_c1 (O 13 h [.ref 6, .int x3]) (fun h1 v2 =>
  some (h1, some (.int v2))) := by rfl
set_option maxRecDepth 20000 in
theorem b97_106_5 (X : q_X) (O : q_O) (n : Nat) (h : q_S) (x3 : Int32) : q_go e_97 X O (n + 1) 106 [(3, .int x3)] [.null] h =
  none := by rfl
-- WhirlShafts.trace(I)I with (0, None)
set_option maxRecDepth 20000 in
theorem b98_0 (X : q_X) (O : q_O) (n : Nat) (h : q_S) (x1 : Int32) : q_go e_98 X O (n + 1) 0 [(0, .ref 0), (1, .int x1)] [] h =
  q_go e_98 X O n 4 [(0, .ref 0), (1, .int x1)] [(q_rv h.2.2)] h := by rfl
set_option maxRecDepth 20000 in
theorem b98_4 (X : q_X) (O : q_O) (n : Nat) (h : q_S) (x1 : Int32) : q_go e_98 X O (n + 1) 4 [(0, .ref 0), (1, .int x1)] [.ref 2] h =
  if x1 < 0 then
    some (h, some (.int (-2)))
  else
    q_go e_98 X O n 16 [(0, .ref 0), (1, .int x1)] [(q_rv h.2.2), .int x1] h := by rfl
set_option maxRecDepth 20000 in
theorem b98_4_1 (X : q_X) (O : q_O) (n : Nat) (h : q_S) (x1 : Int32) : q_go e_98 X O (n + 1) 4 [(0, .ref 0), (1, .int x1)] [.ref 3] h =
  if x1 < 0 then
    some (h, some (.int (-2)))
  else
    q_go e_98 X O n 16 [(0, .ref 0), (1, .int x1)] [(q_rv h.2.2), .int x1] h := by rfl
set_option maxRecDepth 20000 in
theorem b98_4_2 (X : q_X) (O : q_O) (n : Nat) (h : q_S) (x1 : Int32) : q_go e_98 X O (n + 1) 4 [(0, .ref 0), (1, .int x1)] [.ref 4] h =
  if x1 < 0 then
    some (h, some (.int (-2)))
  else
    q_go e_98 X O n 16 [(0, .ref 0), (1, .int x1)] [(q_rv h.2.2), .int x1] h := by rfl
set_option maxRecDepth 20000 in
theorem b98_4_3 (X : q_X) (O : q_O) (n : Nat) (h : q_S) (x1 : Int32) : q_go e_98 X O (n + 1) 4 [(0, .ref 0), (1, .int x1)] [.ref 5] h =
  if x1 < 0 then
    some (h, some (.int (-2)))
  else
    q_go e_98 X O n 16 [(0, .ref 0), (1, .int x1)] [(q_rv h.2.2), .int x1] h := by rfl
set_option maxRecDepth 20000 in
theorem b98_4_4 (X : q_X) (O : q_O) (n : Nat) (h : q_S) (x1 : Int32) : q_go e_98 X O (n + 1) 4 [(0, .ref 0), (1, .int x1)] [.ref 6] h =
  if x1 < 0 then
    some (h, some (.int (-2)))
  else
    q_go e_98 X O n 16 [(0, .ref 0), (1, .int x1)] [(q_rv h.2.2), .int x1] h := by rfl
set_option maxRecDepth 20000 in
theorem b98_4_5 (X : q_X) (O : q_O) (n : Nat) (h : q_S) (x1 : Int32) : q_go e_98 X O (n + 1) 4 [(0, .ref 0), (1, .int x1)] [.null] h =
  some (h, some (.int (-2))) := by rfl
set_option maxRecDepth 20000 in
theorem b98_16 (X : q_X) (O : q_O) (n : Nat) (h : q_S) (x1 : Int32) (s1 : Int32) : q_go e_98 X O (n + 1) 16 [(0, .ref 0), (1, .int x1)] [.ref 2, .int s1] h =
  if s1 < (h.1 2 1) then
    q_go e_98 X O n 29 [(1, .int x1)] [(q_rv h.2.2)] h
  else
    some (h, some (.int (-2))) := by rfl
set_option maxRecDepth 20000 in
theorem b98_16_1 (X : q_X) (O : q_O) (n : Nat) (h : q_S) (x1 : Int32) (s1 : Int32) : q_go e_98 X O (n + 1) 16 [(0, .ref 0), (1, .int x1)] [.ref 3, .int s1] h =
  if s1 < (h.1 3 1) then
    q_go e_98 X O n 29 [(1, .int x1)] [(q_rv h.2.2)] h
  else
    some (h, some (.int (-2))) := by rfl
set_option maxRecDepth 20000 in
theorem b98_16_2 (X : q_X) (O : q_O) (n : Nat) (h : q_S) (x1 : Int32) (s1 : Int32) : q_go e_98 X O (n + 1) 16 [(0, .ref 0), (1, .int x1)] [.ref 4, .int s1] h =
  if s1 < (h.1 4 1) then
    q_go e_98 X O n 29 [(1, .int x1)] [(q_rv h.2.2)] h
  else
    some (h, some (.int (-2))) := by rfl
set_option maxRecDepth 20000 in
theorem b98_16_3 (X : q_X) (O : q_O) (n : Nat) (h : q_S) (x1 : Int32) (s1 : Int32) : q_go e_98 X O (n + 1) 16 [(0, .ref 0), (1, .int x1)] [.ref 5, .int s1] h =
  if s1 < (h.1 5 1) then
    q_go e_98 X O n 29 [(1, .int x1)] [(q_rv h.2.2)] h
  else
    some (h, some (.int (-2))) := by rfl
set_option maxRecDepth 20000 in
theorem b98_16_4 (X : q_X) (O : q_O) (n : Nat) (h : q_S) (x1 : Int32) (s1 : Int32) : q_go e_98 X O (n + 1) 16 [(0, .ref 0), (1, .int x1)] [.ref 6, .int s1] h =
  if s1 < (h.1 6 1) then
    q_go e_98 X O n 29 [(1, .int x1)] [(q_rv h.2.2)] h
  else
    some (h, some (.int (-2))) := by rfl
set_option maxRecDepth 20000 in
theorem b98_16_5 (X : q_X) (O : q_O) (n : Nat) (h : q_S) (x1 : Int32) (s1 : Int32) : q_go e_98 X O (n + 1) 16 [(0, .ref 0), (1, .int x1)] [.null, .int s1] h =
  none := by rfl
set_option maxRecDepth 20000 in
theorem b98_29 (X : q_X) (O : q_O) (n : Nat) (h : q_S) (x1 : Int32) : q_go e_98 X O (n + 1) 29 [(1, .int x1)] [.ref 2] h =
  q_ix x1 24 (fun j1 =>
  some (h, some (.int (h.1 7 j1)))) := by rfl
set_option maxRecDepth 20000 in
theorem b98_29_1 (X : q_X) (O : q_O) (n : Nat) (h : q_S) (x1 : Int32) : q_go e_98 X O (n + 1) 29 [(1, .int x1)] [.ref 3] h =
  q_ix x1 24 (fun j1 =>
  some (h, some (.int (h.1 8 j1)))) := by rfl
set_option maxRecDepth 20000 in
theorem b98_29_2 (X : q_X) (O : q_O) (n : Nat) (h : q_S) (x1 : Int32) : q_go e_98 X O (n + 1) 29 [(1, .int x1)] [.ref 4] h =
  q_ix x1 24 (fun j1 =>
  some (h, some (.int (h.1 9 j1)))) := by rfl
set_option maxRecDepth 20000 in
theorem b98_29_3 (X : q_X) (O : q_O) (n : Nat) (h : q_S) (x1 : Int32) : q_go e_98 X O (n + 1) 29 [(1, .int x1)] [.ref 5] h =
  q_ix x1 24 (fun j1 =>
  some (h, some (.int (h.1 10 j1)))) := by rfl
set_option maxRecDepth 20000 in
theorem b98_29_4 (X : q_X) (O : q_O) (n : Nat) (h : q_S) (x1 : Int32) : q_go e_98 X O (n + 1) 29 [(1, .int x1)] [.ref 6] h =
  q_ix x1 24 (fun j1 =>
  some (h, some (.int (h.1 11 j1)))) := by rfl
set_option maxRecDepth 20000 in
theorem b98_29_5 (X : q_X) (O : q_O) (n : Nat) (h : q_S) (x1 : Int32) : q_go e_98 X O (n + 1) 29 [(1, .int x1)] [.null] h =
  none := by rfl
-- WhirlShafts.taken(II)I with (0, None, None)
set_option maxRecDepth 20000 in
theorem b99_0 (X : q_X) (O : q_O) (n : Nat) (h : q_S) (x1 : Int32) (x2 : Int32) : q_go e_99 X O (n + 1) 0 [(0, .ref 0), (1, .int x1), (2, .int x2)] [] h =
  q_c1 (O 19 h [.ref 12, .int x1]) (fun h1 v2 =>
  if v2 = 0 then
    some (h1, some (.int (-1)))
  else
    q_c1 (O 104 h1 [.int x2]) (fun h3 v4 =>
    if v4 = 0 then
      some (h3, some (.int (-1)))
    else
      q_ix x1 8 (fun j5 =>
      q_c1 (O 110 h3 [.int (h3.1 13 j5), .int x2]) (fun h6 v7 =>
      if v7 = 0 then
        some (h6, some (.int (-5)))
      else
        q_ix x1 8 (fun j8 =>
        some (h6, some (.int (h6.1 14 j8)))))))) := by rfl
-- WhirlShafts.image()I with (0,)
set_option maxRecDepth 20000 in
theorem b100_0 (X : q_X) (O : q_O) (n : Nat) (h : q_S)  : q_go e_100 X O (n + 1) 0 [(0, .ref 0)] [] h =
  q_c0 (O 16 h [.ref 24, .ref 12]) (fun h1 =>
  q_c0 (O 35 h1 [.ref 34, .ref 30]) (fun h2 =>
  some ((q_si h2 0 5 1), some (.int (h2.1 24 6))))) := by rfl
-- WhirlShafts.alike()I with (0,)
set_option maxRecDepth 20000 in
theorem b101_0 (X : q_X) (O : q_O) (n : Nat) (h : q_S)  : q_go e_101 X O (n + 1) 0 [(0, .ref 0)] [] h =
  if (h.1 0 5) = 0 then
    some (h, some (.int (-5)))
  else
    q_c1 (O 33 h [.ref 12, .ref 24]) (fun h1 v2 =>
    if v2 = 0 then
      some (h1, some (.int 0))
    else
      some (h1, some (.int 1))) := by rfl
-- WhirlShafts.back()I with (0,)
set_option maxRecDepth 20000 in
theorem b102_0 (X : q_X) (O : q_O) (n : Nat) (h : q_S)  : q_go e_102 X O (n + 1) 0 [(0, .ref 0)] [] h =
  if (h.1 0 5) = 0 then
    some (h, some (.int (-5)))
  else
    q_c0 (O 16 h [.ref 12, .ref 24]) (fun h1 =>
    q_c0 (O 35 h1 [.ref 30, .ref 34]) (fun h2 =>
    q_c0 (O 0 h2 [.ref 38]) (fun h3 =>
    some (h3, some (.int (h3.1 12 6)))))) := by rfl
-- WhirlShafts.count(I)I with (0, None)
set_option maxRecDepth 20000 in
theorem b103_0 (X : q_X) (O : q_O) (n : Nat) (h : q_S) (x1 : Int32) : q_go e_103 X O (n + 1) 0 [(0, .ref 0), (1, .int x1)] [] h =
  if x1 = 0 then
    some (h, some (.int (h.1 12 6)))
  else if x1 = 1 then
    some (h, some (.int (h.1 12 7)))
  else if x1 = 2 then
    some (h, some (.int (h.1 12 8)))
  else if x1 = 3 then
    q_c1 (O 25 h [.ref 12, .int ((h.1 12 6) - 1)]) (fun h1 v2 =>
    some (h1, some (.int v2)))
  else if x1 = 4 then
    some (h, some (.int (h.1 30 3)))
  else if x1 = 5 then
    some (h, some (.int (h.1 38 4)))
  else if x1 = 6 then
    some (h, some (.int (h.1 38 5)))
  else if x1 = 7 then
    some (h, some (.int (h.1 57 1)))
  else if x1 = 8 then
    q_c1 (O 111 h [.ref 0]) (fun h3 v4 =>
    some (h3, some (.int v4)))
  else 
    some (h, some (.int (-1))) := by rfl
-- WhirlShafts.isKind(I)Z with (None,)
set_option maxRecDepth 20000 in
theorem b104_0 (X : q_X) (O : q_O) (n : Nat) (h : q_S) (x0 : Int32) : q_go e_104 X O (n + 1) 0 [(0, .int x0)] [] h =
  if x0 < 0 then
    some (h, some (.int 0))
  else
    q_len X 102 (fun w1 =>
    if x0 < w1 then
      some (h, some (.int 1))
    else
      some (h, some (.int 0))) := by rfl
-- WhirlShafts.inRange(II)Z with (None, None)
set_option maxRecDepth 20000 in
theorem b105_0 (X : q_X) (O : q_O) (n : Nat) (h : q_S) (x0 : Int32) (x1 : Int32) : q_go e_105 X O (n + 1) 0 [(0, .int x0), (1, .int x1)] [] h =
  q_ald X h 103 x0 (fun w2 =>
  if x1 < w2 then
    some (h, some (.int 0))
  else
    q_ald X h 104 x0 (fun w4 =>
    if w4 < x1 then
      some (h, some (.int 0))
    else
      some (h, some (.int 1)))) := by rfl
-- WhirlShafts.isQ(I)Z with (None,)
set_option maxRecDepth 20000 in
theorem b106_0 (X : q_X) (O : q_O) (n : Nat) (h : q_S) (x0 : Int32) : q_go e_106 X O (n + 1) 0 [(0, .int x0)] [] h =
  if x0 < 1 then
    some (h, some (.int 0))
  else
    if 16 < x0 then
      some (h, some (.int 0))
    else
      some (h, some (.int 1)) := by rfl
-- WhirlShafts.isPoint(II)Z with (None, None)
set_option maxRecDepth 20000 in
theorem b107_0 (X : q_X) (O : q_O) (n : Nat) (h : q_S) (x0 : Int32) (x1 : Int32) : q_go e_107 X O (n + 1) 0 [(0, .int x0), (1, .int x1)] [] h =
  if x0 < 0 then
    some (h, some (.int 0))
  else
    if 9999 < x0 then
      some (h, some (.int 0))
    else
      q_c1 (O 106 h [.int x1]) (fun h1 v2 =>
      if v2 = 0 then
        some (h1, some (.int 0))
      else
        some (h1, some (.int 1))) := by rfl
-- WhirlShafts.isBand(III)Z with (None, None, None)
set_option maxRecDepth 20000 in
theorem b108_0 (X : q_X) (O : q_O) (n : Nat) (h : q_S) (x0 : Int32) (x1 : Int32) (x2 : Int32) : q_go e_108 X O (n + 1) 0 [(0, .int x0), (1, .int x1), (2, .int x2)] [] h =
  q_c1 (O 107 h [.int x0, .int x2]) (fun h1 v2 =>
  if v2 = 0 then
    some (h1, some (.int 0))
  else
    q_c1 (O 107 h1 [.int x1, .int x2]) (fun h3 v4 =>
    if v4 = 0 then
      some (h3, some (.int 0))
    else
      if x1 < x0 then
        some (h3, some (.int 0))
      else
        some (h3, some (.int 1)))) := by rfl
-- WhirlShafts.isRow(I)Z with (None,)
set_option maxRecDepth 20000 in
theorem b109_0 (X : q_X) (O : q_O) (n : Nat) (h : q_S) (x0 : Int32) : q_go e_109 X O (n + 1) 0 [(0, .int x0)] [] h =
  if x0 < 0 then
    some (h, some (.int 0))
  else
    if x0 < 3 then
      some (h, some (.int 1))
    else
      some (h, some (.int 0)) := by rfl
-- WhirlShafts.isUnder(II)Z with (None, None)
set_option maxRecDepth 20000 in
theorem b110_0 (X : q_X) (O : q_O) (n : Nat) (h : q_S) (x0 : Int32) (x1 : Int32) : q_go e_110 X O (n + 1) 0 [(0, .int x0), (1, .int x1)] [] h =
  q_go e_110 X O n 4 [(1, .int x1), (2, .int x0), (3, .int 0)] [] h := by rfl
set_option maxRecDepth 20000 in
theorem b110_4 (X : q_X) (O : q_O) (n : Nat) (h : q_S) (x1 : Int32) (x2 : Int32) (x3 : Int32) : q_go e_110 X O (n + 1) 4 [(1, .int x1), (2, .int x2), (3, .int x3)] [] h =
  q_len X 102 (fun w1 =>
  if x3 < w1 then
    if x2 < 0 then
      some (h, some (.int 0))
    else
      if x2 = x1 then
        some (h, some (.int 1))
      else
        q_ald X h 102 x2 (fun w3 =>
        q_go e_110 X O n 4 [(1, .int x1), (2, .int w3), (3, .int (x3 + 1))] [] h)
  else
    some (h, some (.int 0))) := by rfl
-- WhirlShafts.rowsThere()I with (0,)
set_option maxRecDepth 20000 in
theorem b111_0 (X : q_X) (O : q_O) (n : Nat) (h : q_S)  : q_go e_111 X O (n + 1) 0 [(0, .ref 0)] [] h =
  q_go e_111 X O n 4 [(0, .ref 0), (1, .int 0), (2, .int 0)] [] h := by rfl
set_option maxRecDepth 20000 in
theorem b111_4 (X : q_X) (O : q_O) (n : Nat) (h : q_S) (x1 : Int32) (x2 : Int32) : q_go e_111 X O (n + 1) 4 [(0, .ref 0), (1, .int x1), (2, .int x2)] [] h =
  if x2 < 3 then
    q_ix x2 3 (fun j1 =>
    q_go e_111 X O n 15 [(0, .ref 0), (1, .int x1), (2, .int x2)] [.ref (q_rf 60 j1)] h)
  else
    some (h, some (.int x1)) := by rfl
set_option maxRecDepth 20000 in
theorem b111_15 (X : q_X) (O : q_O) (n : Nat) (h : q_S) (x1 : Int32) (x2 : Int32) : q_go e_111 X O (n + 1) 15 [(0, .ref 0), (1, .int x1), (2, .int x2)] [.ref 61] h =
  q_c1 (O 48 h [.ref 61]) (fun h1 v2 =>
  if v2 = 0 then
    q_go e_111 X O n 4 [(0, .ref 0), (1, .int (x1 + 1)), (2, .int (x2 + 1))] [] h1
  else
    q_go e_111 X O n 4 [(0, .ref 0), (1, .int x1), (2, .int (x2 + 1))] [] h1) := by rfl
set_option maxRecDepth 20000 in
theorem b111_15_1 (X : q_X) (O : q_O) (n : Nat) (h : q_S) (x1 : Int32) (x2 : Int32) : q_go e_111 X O (n + 1) 15 [(0, .ref 0), (1, .int x1), (2, .int x2)] [.ref 62] h =
  q_c1 (O 48 h [.ref 62]) (fun h1 v2 =>
  if v2 = 0 then
    q_go e_111 X O n 4 [(0, .ref 0), (1, .int (x1 + 1)), (2, .int (x2 + 1))] [] h1
  else
    q_go e_111 X O n 4 [(0, .ref 0), (1, .int x1), (2, .int (x2 + 1))] [] h1) := by rfl
set_option maxRecDepth 20000 in
theorem b111_15_2 (X : q_X) (O : q_O) (n : Nat) (h : q_S) (x1 : Int32) (x2 : Int32) : q_go e_111 X O (n + 1) 15 [(0, .ref 0), (1, .int x1), (2, .int x2)] [.ref 63] h =
  q_c1 (O 48 h [.ref 63]) (fun h1 v2 =>
  if v2 = 0 then
    q_go e_111 X O n 4 [(0, .ref 0), (1, .int (x1 + 1)), (2, .int (x2 + 1))] [] h1
  else
    q_go e_111 X O n 4 [(0, .ref 0), (1, .int x1), (2, .int (x2 + 1))] [] h1) := by rfl
-- WhirlShafts.fenceBy(LWhirlShafts$Line;II)I with (0, 12, None, None)
set_option maxRecDepth 20000 in
theorem b112_0 (X : q_X) (O : q_O) (n : Nat) (h : q_S) (x2 : Int32) (x3 : Int32) : q_go e_112 X O (n + 1) 0 [(0, .ref 0), (1, .ref 12), (2, .int x2), (3, .int x3)] [] h =
  q_c0 (O 36 h [.ref 43, .ref 12]) (fun h1 =>
  q_c1 (O 43 h1 [.ref 43, .int x2, .int x3]) (fun h2 v3 =>
  some (h2, some (.int v3)))) := by rfl
-- WhirlShafts.fenceBy(LWhirlShafts$Line;II)I with (0, 18, None, None)
set_option maxRecDepth 20000 in
theorem b112_0_1 (X : q_X) (O : q_O) (n : Nat) (h : q_S) (x2 : Int32) (x3 : Int32) : q_go e_112 X O (n + 1) 0 [(0, .ref 0), (1, .ref 18), (2, .int x2), (3, .int x3)] [] h =
  q_c0 (O 36 h [.ref 43, .ref 18]) (fun h1 =>
  q_c1 (O 43 h1 [.ref 43, .int x2, .int x3]) (fun h2 v3 =>
  some (h2, some (.int v3)))) := by rfl
-- WhirlShafts.fenceByMass(IIII)I with (0, None, None, None, None)
set_option maxRecDepth 20000 in
theorem b113_0 (X : q_X) (O : q_O) (n : Nat) (h : q_S) (x1 : Int32) (x2 : Int32) (x3 : Int32) (x4 : Int32) : q_go e_113 X O (n + 1) 0 [(0, .ref 0), (1, .int x1), (2, .int x2), (3, .int x3), (4, .int x4)] [] h =
  q_ix x1 8 (fun j1 =>
  q_c1 (O 112 (q_si h 20 j1 x2) [.ref 0, .ref 18, .int x3, .int x4]) (fun h2 v3 =>
  some (h2, some (.int v3)))) := by rfl
-- WhirlShafts.leastMassWithin(IIII)I with (0, None, None, None, None)
set_option maxRecDepth 20000 in
theorem b114_0 (X : q_X) (O : q_O) (n : Nat) (h : q_S) (x1 : Int32) (x2 : Int32) (x3 : Int32) (x4 : Int32) : q_go e_114 X O (n + 1) 0 [(0, .ref 0), (1, .int x1), (2, .int x2), (3, .int x3), (4, .int x4)] [] h =
  q_go e_114 X O n 7 [(0, .ref 0), (1, .int x1), (2, .int x2), (3, .int x3), (4, .int x4), (5, .int 0), (6, .int 64)] [] h := by rfl
set_option maxRecDepth 20000 in
theorem b114_7 (X : q_X) (O : q_O) (n : Nat) (h : q_S) (x1 : Int32) (x2 : Int32) (x3 : Int32) (x4 : Int32) (x5 : Int32) (x6 : Int32) : q_go e_114 X O (n + 1) 7 [(0, .ref 0), (1, .int x1), (2, .int x2), (3, .int x3), (4, .int x4), (5, .int x5), (6, .int x6)] [] h =
  if 0 < x6 then
    if 99 < (x5 + x6) then
      q_go e_114 X O n 7 [(0, .ref 0), (1, .int x1), (2, .int x2), (3, .int x3), (4, .int x4), (5, .int x5), (6, .int (x6 >>> (1 &&& 31)))] [] h
    else
      q_ix x1 8 (fun j1 =>
      q_c0 (O 36 (q_si h 20 j1 (x5 + x6)) [.ref 43, .ref 18]) (fun h2 =>
      q_c1 (O 37 h2 [.ref 43, .int (x3 + 1), .int x4]) (fun h3 v4 =>
      if x2 < v4 then
        q_go e_114 X O n 7 [(0, .ref 0), (1, .int x1), (2, .int x2), (3, .int x3), (4, .int x4), (5, .int x5), (6, .int (x6 >>> (1 &&& 31)))] [] h3
      else
        q_go e_114 X O n 7 [(0, .ref 0), (1, .int x1), (2, .int x2), (3, .int x3), (4, .int x4), (5, .int (x5 + x6)), (6, .int (x6 >>> (1 &&& 31)))] [] h3)))
  else
    some (h, some (.int (x5 + 1))) := by rfl
-- WhirlShafts.trialFits(LWhirlShafts$Row;II)Z with (0, 61, None, None)
set_option maxRecDepth 20000 in
theorem b115_0 (X : q_X) (O : q_O) (n : Nat) (h : q_S) (x2 : Int32) (x3 : Int32) : q_go e_115 X O (n + 1) 0 [(0, .ref 0), (1, .ref 61), (2, .int x2), (3, .int x3)] [] h =
  q_c0 (O 36 h [.ref 43, .ref 18]) (fun h1 =>
  q_go e_115 X O n 14 [(0, .ref 0), (1, .ref 61), (2, .int x2), (3, .int x3), (4, .int 0)] [] h1) := by rfl
set_option maxRecDepth 20000 in
theorem b115_14 (X : q_X) (O : q_O) (n : Nat) (h : q_S) (x2 : Int32) (x3 : Int32) (x4 : Int32) : q_go e_115 X O (n + 1) 14 [(0, .ref 0), (1, .ref 61), (2, .int x2), (3, .int x3), (4, .int x4)] [] h =
  if x4 < x2 then
    q_ix x4 40 (fun j1 =>
    q_c1 (O 44 h [.ref 43, .int x4, .int x3, .long (h.2.1 64 j1)]) (fun h2 v3 =>
    if v3 = 0 then
      some (h2, some (.int 0))
    else
      q_go e_115 X O n 14 [(0, .ref 0), (1, .ref 61), (2, .int x2), (3, .int x3), (4, .int (x4 + 1))] [] h2))
  else
    some (h, some (.int 1)) := by rfl
-- WhirlShafts.trialFits(LWhirlShafts$Row;II)Z with (0, 62, None, None)
set_option maxRecDepth 20000 in
theorem b115_0_1 (X : q_X) (O : q_O) (n : Nat) (h : q_S) (x2 : Int32) (x3 : Int32) : q_go e_115 X O (n + 1) 0 [(0, .ref 0), (1, .ref 62), (2, .int x2), (3, .int x3)] [] h =
  q_c0 (O 36 h [.ref 43, .ref 18]) (fun h1 =>
  q_go e_115 X O n 14 [(0, .ref 0), (1, .ref 62), (2, .int x2), (3, .int x3), (4, .int 0)] [] h1) := by rfl
set_option maxRecDepth 20000 in
theorem b115_14_1 (X : q_X) (O : q_O) (n : Nat) (h : q_S) (x2 : Int32) (x3 : Int32) (x4 : Int32) : q_go e_115 X O (n + 1) 14 [(0, .ref 0), (1, .ref 62), (2, .int x2), (3, .int x3), (4, .int x4)] [] h =
  if x4 < x2 then
    q_ix x4 40 (fun j1 =>
    q_c1 (O 44 h [.ref 43, .int x4, .int x3, .long (h.2.1 65 j1)]) (fun h2 v3 =>
    if v3 = 0 then
      some (h2, some (.int 0))
    else
      q_go e_115 X O n 14 [(0, .ref 0), (1, .ref 62), (2, .int x2), (3, .int x3), (4, .int (x4 + 1))] [] h2))
  else
    some (h, some (.int 1)) := by rfl
-- WhirlShafts.trialFits(LWhirlShafts$Row;II)Z with (0, 63, None, None)
set_option maxRecDepth 20000 in
theorem b115_0_2 (X : q_X) (O : q_O) (n : Nat) (h : q_S) (x2 : Int32) (x3 : Int32) : q_go e_115 X O (n + 1) 0 [(0, .ref 0), (1, .ref 63), (2, .int x2), (3, .int x3)] [] h =
  q_c0 (O 36 h [.ref 43, .ref 18]) (fun h1 =>
  q_go e_115 X O n 14 [(0, .ref 0), (1, .ref 63), (2, .int x2), (3, .int x3), (4, .int 0)] [] h1) := by rfl
set_option maxRecDepth 20000 in
theorem b115_14_2 (X : q_X) (O : q_O) (n : Nat) (h : q_S) (x2 : Int32) (x3 : Int32) (x4 : Int32) : q_go e_115 X O (n + 1) 14 [(0, .ref 0), (1, .ref 63), (2, .int x2), (3, .int x3), (4, .int x4)] [] h =
  if x4 < x2 then
    q_ix x4 40 (fun j1 =>
    q_c1 (O 44 h [.ref 43, .int x4, .int x3, .long (h.2.1 66 j1)]) (fun h2 v3 =>
    if v3 = 0 then
      some (h2, some (.int 0))
    else
      q_go e_115 X O n 14 [(0, .ref 0), (1, .ref 63), (2, .int x2), (3, .int x3), (4, .int (x4 + 1))] [] h2))
  else
    some (h, some (.int 1)) := by rfl
-- WhirlShafts.massesThatFit(LWhirlShafts$Row;IIIZ)I with (0, 61, None, None, None, None)
set_option maxRecDepth 20000 in
theorem b116_0 (X : q_X) (O : q_O) (n : Nat) (h : q_S) (x2 : Int32) (x3 : Int32) (x4 : Int32) (x5 : Int32) : q_go e_116 X O (n + 1) 0 [(0, .ref 0), (1, .ref 61), (2, .int x2), (3, .int x3), (4, .int x4), (5, .int x5)] [] h =
  q_go e_116 X O n 6 [(0, .ref 0), (1, .ref 61), (2, .int x2), (3, .int x3), (4, .int x4), (5, .int x5), (6, .int 0), (7, .int 1)] [] h := by rfl
set_option maxRecDepth 20000 in
theorem b116_6 (X : q_X) (O : q_O) (n : Nat) (h : q_S) (x2 : Int32) (x3 : Int32) (x4 : Int32) (x5 : Int32) (x6 : Int32) (x7 : Int32) : q_go e_116 X O (n + 1) 6 [(0, .ref 0), (1, .ref 61), (2, .int x2), (3, .int x3), (4, .int x4), (5, .int x5), (6, .int x6), (7, .int x7)] [] h =
  if 99 < x7 then
    if x5 = 0 then
      some (h, some (.int x6))
    else
      some (h, some (.int (-2)))
  else
    q_ix x4 8 (fun j1 =>
    q_c1 (O 115 (q_si h 20 j1 x7) [.ref 0, .ref 61, .int x2, .int x3]) (fun h2 v3 =>
    if v3 = 0 then
      q_go e_116 X O n 6 [(0, .ref 0), (1, .ref 61), (2, .int x2), (3, .int x3), (4, .int x4), (5, .int x5), (6, .int x6), (7, .int (x7 + 1))] [] h2
    else
      if x5 = 0 then
        q_go e_116 X O n 6 [(0, .ref 0), (1, .ref 61), (2, .int x2), (3, .int x3), (4, .int x4), (5, .int x5), (6, .int (x6 + 1)), (7, .int (x7 + 1))] [] h2
      else
        some (h2, some (.int x7)))) := by rfl
-- WhirlShafts.massesThatFit(LWhirlShafts$Row;IIIZ)I with (0, 62, None, None, None, None)
set_option maxRecDepth 20000 in
theorem b116_0_1 (X : q_X) (O : q_O) (n : Nat) (h : q_S) (x2 : Int32) (x3 : Int32) (x4 : Int32) (x5 : Int32) : q_go e_116 X O (n + 1) 0 [(0, .ref 0), (1, .ref 62), (2, .int x2), (3, .int x3), (4, .int x4), (5, .int x5)] [] h =
  q_go e_116 X O n 6 [(0, .ref 0), (1, .ref 62), (2, .int x2), (3, .int x3), (4, .int x4), (5, .int x5), (6, .int 0), (7, .int 1)] [] h := by rfl
set_option maxRecDepth 20000 in
theorem b116_6_1 (X : q_X) (O : q_O) (n : Nat) (h : q_S) (x2 : Int32) (x3 : Int32) (x4 : Int32) (x5 : Int32) (x6 : Int32) (x7 : Int32) : q_go e_116 X O (n + 1) 6 [(0, .ref 0), (1, .ref 62), (2, .int x2), (3, .int x3), (4, .int x4), (5, .int x5), (6, .int x6), (7, .int x7)] [] h =
  if 99 < x7 then
    if x5 = 0 then
      some (h, some (.int x6))
    else
      some (h, some (.int (-2)))
  else
    q_ix x4 8 (fun j1 =>
    q_c1 (O 115 (q_si h 20 j1 x7) [.ref 0, .ref 62, .int x2, .int x3]) (fun h2 v3 =>
    if v3 = 0 then
      q_go e_116 X O n 6 [(0, .ref 0), (1, .ref 62), (2, .int x2), (3, .int x3), (4, .int x4), (5, .int x5), (6, .int x6), (7, .int (x7 + 1))] [] h2
    else
      if x5 = 0 then
        q_go e_116 X O n 6 [(0, .ref 0), (1, .ref 62), (2, .int x2), (3, .int x3), (4, .int x4), (5, .int x5), (6, .int (x6 + 1)), (7, .int (x7 + 1))] [] h2
      else
        some (h2, some (.int x7)))) := by rfl
-- WhirlShafts.massesThatFit(LWhirlShafts$Row;IIIZ)I with (0, 63, None, None, None, None)
set_option maxRecDepth 20000 in
theorem b116_0_2 (X : q_X) (O : q_O) (n : Nat) (h : q_S) (x2 : Int32) (x3 : Int32) (x4 : Int32) (x5 : Int32) : q_go e_116 X O (n + 1) 0 [(0, .ref 0), (1, .ref 63), (2, .int x2), (3, .int x3), (4, .int x4), (5, .int x5)] [] h =
  q_go e_116 X O n 6 [(0, .ref 0), (1, .ref 63), (2, .int x2), (3, .int x3), (4, .int x4), (5, .int x5), (6, .int 0), (7, .int 1)] [] h := by rfl
set_option maxRecDepth 20000 in
theorem b116_6_2 (X : q_X) (O : q_O) (n : Nat) (h : q_S) (x2 : Int32) (x3 : Int32) (x4 : Int32) (x5 : Int32) (x6 : Int32) (x7 : Int32) : q_go e_116 X O (n + 1) 6 [(0, .ref 0), (1, .ref 63), (2, .int x2), (3, .int x3), (4, .int x4), (5, .int x5), (6, .int x6), (7, .int x7)] [] h =
  if 99 < x7 then
    if x5 = 0 then
      some (h, some (.int x6))
    else
      some (h, some (.int (-2)))
  else
    q_ix x4 8 (fun j1 =>
    q_c1 (O 115 (q_si h 20 j1 x7) [.ref 0, .ref 63, .int x2, .int x3]) (fun h2 v3 =>
    if v3 = 0 then
      q_go e_116 X O n 6 [(0, .ref 0), (1, .ref 63), (2, .int x2), (3, .int x3), (4, .int x4), (5, .int x5), (6, .int x6), (7, .int (x7 + 1))] [] h2
    else
      if x5 = 0 then
        q_go e_116 X O n 6 [(0, .ref 0), (1, .ref 63), (2, .int x2), (3, .int x3), (4, .int x4), (5, .int x5), (6, .int (x6 + 1)), (7, .int (x7 + 1))] [] h2
      else
        some (h2, some (.int x7)))) := by rfl
-- WhirlShafts.kindsThatFit(LWhirlShafts$Row;III)I with (0, 61, None, None, None)
set_option maxRecDepth 20000 in
theorem b117_0 (X : q_X) (O : q_O) (n : Nat) (h : q_S) (x2 : Int32) (x3 : Int32) (x4 : Int32) : q_go e_117 X O (n + 1) 0 [(0, .ref 0), (1, .ref 61), (2, .int x2), (3, .int x3), (4, .int x4)] [] h =
  q_go e_117 X O n 6 [(0, .ref 0), (1, .ref 61), (2, .int x2), (3, .int x3), (4, .int x4), (5, .int 0), (6, .int 0)] [] h := by rfl
set_option maxRecDepth 20000 in
theorem b117_6 (X : q_X) (O : q_O) (n : Nat) (h : q_S) (x2 : Int32) (x3 : Int32) (x4 : Int32) (x5 : Int32) (x6 : Int32) : q_go e_117 X O (n + 1) 6 [(0, .ref 0), (1, .ref 61), (2, .int x2), (3, .int x3), (4, .int x4), (5, .int x5), (6, .int x6)] [] h =
  q_len X 102 (fun w1 =>
  if x6 < w1 then
    q_ix x4 8 (fun j2 =>
    q_c1 (O 115 (q_si h 19 j2 x6) [.ref 0, .ref 61, .int x2, .int x3]) (fun h3 v4 =>
    if v4 = 0 then
      q_go e_117 X O n 6 [(0, .ref 0), (1, .ref 61), (2, .int x2), (3, .int x3), (4, .int x4), (5, .int x5), (6, .int (x6 + 1))] [] h3
    else
      q_go e_117 X O n 6 [(0, .ref 0), (1, .ref 61), (2, .int x2), (3, .int x3), (4, .int x4), (5, .int (x5 ||| (1 <<< (x6 &&& 31)))), (6, .int (x6 + 1))] [] h3))
  else
    some (h, some (.int x5))) := by rfl
-- WhirlShafts.kindsThatFit(LWhirlShafts$Row;III)I with (0, 62, None, None, None)
set_option maxRecDepth 20000 in
theorem b117_0_1 (X : q_X) (O : q_O) (n : Nat) (h : q_S) (x2 : Int32) (x3 : Int32) (x4 : Int32) : q_go e_117 X O (n + 1) 0 [(0, .ref 0), (1, .ref 62), (2, .int x2), (3, .int x3), (4, .int x4)] [] h =
  q_go e_117 X O n 6 [(0, .ref 0), (1, .ref 62), (2, .int x2), (3, .int x3), (4, .int x4), (5, .int 0), (6, .int 0)] [] h := by rfl
set_option maxRecDepth 20000 in
theorem b117_6_1 (X : q_X) (O : q_O) (n : Nat) (h : q_S) (x2 : Int32) (x3 : Int32) (x4 : Int32) (x5 : Int32) (x6 : Int32) : q_go e_117 X O (n + 1) 6 [(0, .ref 0), (1, .ref 62), (2, .int x2), (3, .int x3), (4, .int x4), (5, .int x5), (6, .int x6)] [] h =
  q_len X 102 (fun w1 =>
  if x6 < w1 then
    q_ix x4 8 (fun j2 =>
    q_c1 (O 115 (q_si h 19 j2 x6) [.ref 0, .ref 62, .int x2, .int x3]) (fun h3 v4 =>
    if v4 = 0 then
      q_go e_117 X O n 6 [(0, .ref 0), (1, .ref 62), (2, .int x2), (3, .int x3), (4, .int x4), (5, .int x5), (6, .int (x6 + 1))] [] h3
    else
      q_go e_117 X O n 6 [(0, .ref 0), (1, .ref 62), (2, .int x2), (3, .int x3), (4, .int x4), (5, .int (x5 ||| (1 <<< (x6 &&& 31)))), (6, .int (x6 + 1))] [] h3))
  else
    some (h, some (.int x5))) := by rfl
-- WhirlShafts.kindsThatFit(LWhirlShafts$Row;III)I with (0, 63, None, None, None)
set_option maxRecDepth 20000 in
theorem b117_0_2 (X : q_X) (O : q_O) (n : Nat) (h : q_S) (x2 : Int32) (x3 : Int32) (x4 : Int32) : q_go e_117 X O (n + 1) 0 [(0, .ref 0), (1, .ref 63), (2, .int x2), (3, .int x3), (4, .int x4)] [] h =
  q_go e_117 X O n 6 [(0, .ref 0), (1, .ref 63), (2, .int x2), (3, .int x3), (4, .int x4), (5, .int 0), (6, .int 0)] [] h := by rfl
set_option maxRecDepth 20000 in
theorem b117_6_2 (X : q_X) (O : q_O) (n : Nat) (h : q_S) (x2 : Int32) (x3 : Int32) (x4 : Int32) (x5 : Int32) (x6 : Int32) : q_go e_117 X O (n + 1) 6 [(0, .ref 0), (1, .ref 63), (2, .int x2), (3, .int x3), (4, .int x4), (5, .int x5), (6, .int x6)] [] h =
  q_len X 102 (fun w1 =>
  if x6 < w1 then
    q_ix x4 8 (fun j2 =>
    q_c1 (O 115 (q_si h 19 j2 x6) [.ref 0, .ref 63, .int x2, .int x3]) (fun h3 v4 =>
    if v4 = 0 then
      q_go e_117 X O n 6 [(0, .ref 0), (1, .ref 63), (2, .int x2), (3, .int x3), (4, .int x4), (5, .int x5), (6, .int (x6 + 1))] [] h3
    else
      q_go e_117 X O n 6 [(0, .ref 0), (1, .ref 63), (2, .int x2), (3, .int x3), (4, .int x4), (5, .int (x5 ||| (1 <<< (x6 &&& 31)))), (6, .int (x6 + 1))] [] h3))
  else
    some (h, some (.int x5))) := by rfl
-- WhirlShafts.doActs()I with (0,)
set_option maxRecDepth 20000 in
theorem b118_0 (X : q_X) (O : q_O) (n : Nat) (h : q_S)  : q_go e_118 X O (n + 1) 0 [(0, .ref 0)] [] h =
  q_go e_118 X O n 12 [(0, .ref 0), (1, .int 0), (2, .int 0)] [] (q_si h 57 2 0) := by rfl
set_option maxRecDepth 20000 in
theorem b118_12 (X : q_X) (O : q_O) (n : Nat) (h : q_S) (x1 : Int32) (x2 : Int32) : q_go e_118 X O (n + 1) 12 [(0, .ref 0), (1, .int x1), (2, .int x2)] [] h =
  if x2 < 80 then
    if (h.1 57 2) < (h.1 57 1) then
      q_c1 (O 59 h [.ref 57]) (fun h1 v2 =>
      q_c1 (O 119 h1 [.ref 0, .int v2]) (fun h3 v4 =>
      if v4 < 0 then
        some (h3, some (.int ((-200) - x1)))
      else
        q_go e_118 X O n 12 [(0, .ref 0), (1, .int (x1 + 1)), (2, .int (x2 + 1))] [] h3))
    else
      some (h, some (.int x1))
  else
    some (h, some (.int x1)) := by rfl
-- WhirlShafts.doAct(I)I with (0, None)
set_option maxRecDepth 20000 in
theorem b119_0 (X : q_X) (O : q_O) (n : Nat) (h : q_S) (x1 : Int32) : q_go e_119 X O (n + 1) 0 [(0, .ref 0), (1, .int x1)] [] h =
  if x1 = 98 then
    q_ix 0 3 (fun j1 =>
    q_ix 1 3 (fun j2 =>
    q_c1 (O 64 h [.ref 0, .int 2, .int (h.1 59 j1), .int (h.1 59 j2)]) (fun h3 v4 =>
    some (h3, some (.int v4)))))
  else if x1 = 99 then
    q_c1 (O 62 h [.ref 0]) (fun h5 v6 =>
    some (h5, some (.int v6)))
  else if x1 = 100 then
    q_ix 0 3 (fun j7 =>
    q_ix 1 3 (fun j8 =>
    q_ix 2 3 (fun j9 =>
    q_c1 (O 61 h [.ref 0, .int (h.1 59 j7), .int (h.1 59 j8), .int (h.1 59 j9)]) (fun h10 v11 =>
    some (h10, some (.int v11))))))
  else if x1 = 101 then
    q_c1 (O 62 h [.ref 0]) (fun h12 v13 =>
    some (h12, some (.int v13)))
  else if x1 = 102 then
    q_c1 (O 62 h [.ref 0]) (fun h14 v15 =>
    some (h14, some (.int v15)))
  else if x1 = 103 then
    q_ix 0 3 (fun j16 =>
    q_ix 1 3 (fun j17 =>
    q_c1 (O 64 h [.ref 0, .int 3, .int (h.1 59 j16), .int (h.1 59 j17)]) (fun h18 v19 =>
    some (h18, some (.int v19)))))
  else if x1 = 104 then
    q_c1 (O 62 h [.ref 0]) (fun h20 v21 =>
    some (h20, some (.int v21)))
  else if x1 = 105 then
    q_ix 0 3 (fun j22 =>
    q_ix 1 3 (fun j23 =>
    q_c1 (O 64 h [.ref 0, .int 0, .int (h.1 59 j22), .int (h.1 59 j23)]) (fun h24 v25 =>
    some (h24, some (.int v25)))))
  else if x1 = 106 then
    q_c1 (O 62 h [.ref 0]) (fun h26 v27 =>
    some (h26, some (.int v27)))
  else if x1 = 107 then
    q_ix 0 3 (fun j28 =>
    q_ix 1 3 (fun j29 =>
    q_c1 (O 64 h [.ref 0, .int 1, .int (h.1 59 j28), .int (h.1 59 j29)]) (fun h30 v31 =>
    some (h30, some (.int v31)))))
  else if x1 = 108 then
    q_c1 (O 62 h [.ref 0]) (fun h32 v33 =>
    some (h32, some (.int v33)))
  else if x1 = 109 then
    q_c1 (O 62 h [.ref 0]) (fun h34 v35 =>
    some (h34, some (.int v35)))
  else if x1 = 110 then
    q_ix 0 3 (fun j36 =>
    q_c1 (O 64 h [.ref 0, .int 4, .int 0, .int (h.1 59 j36)]) (fun h37 v38 =>
    some (h37, some (.int v38))))
  else if x1 = 111 then
    q_c1 (O 62 h [.ref 0]) (fun h39 v40 =>
    some (h39, some (.int v40)))
  else if x1 = 112 then
    q_c1 (O 62 h [.ref 0]) (fun h41 v42 =>
    some (h41, some (.int v42)))
  else if x1 = 113 then
    q_c1 (O 62 h [.ref 0]) (fun h43 v44 =>
    some (h43, some (.int v44)))
  else if x1 = 114 then
    q_c1 (O 62 h [.ref 0]) (fun h45 v46 =>
    some (h45, some (.int v46)))
  else if x1 = 115 then
    q_c1 (O 62 h [.ref 0]) (fun h47 v48 =>
    some (h47, some (.int v48)))
  else if x1 = 116 then
    q_c1 (O 62 h [.ref 0]) (fun h49 v50 =>
    some (h49, some (.int v50)))
  else if x1 = 117 then
    q_c1 (O 62 h [.ref 0]) (fun h51 v52 =>
    some (h51, some (.int v52)))
  else if x1 = 118 then
    q_c1 (O 62 h [.ref 0]) (fun h53 v54 =>
    some (h53, some (.int v54)))
  else if x1 = 119 then
    q_ix 0 3 (fun j55 =>
    q_c1 (O 64 h [.ref 0, .int 5, .int 0, .int (h.1 59 j55)]) (fun h56 v57 =>
    some (h56, some (.int v57))))
  else 
    q_c1 (O 62 h [.ref 0]) (fun h58 v59 =>
    some (h58, some (.int v59))) := by rfl
-- WhirlShaftsModel.isIn(III)Z with (None, None, None)
set_option maxRecDepth 20000 in
theorem b120_0 (X : q_X) (O : q_O) (n : Nat) (h : q_S) (x0 : Int32) (x1 : Int32) (x2 : Int32) : q_go e_120 X O (n + 1) 0 [(0, .int x0), (1, .int x1), (2, .int x2)] [] h =
  if x0 < x1 then
    some (h, some (.int 0))
  else
    if x2 < x0 then
      some (h, some (.int 0))
    else
      some (h, some (.int 1)) := by rfl
-- WhirlShaftsModel.isDisc(I)Z with (67, None)
set_option maxRecDepth 20000 in
theorem b121_0 (X : q_X) (O : q_O) (n : Nat) (h : q_S) (x1 : Int32) : q_go e_121 X O (n + 1) 0 [(0, .ref 67), (1, .int x1)] [] h =
  q_c1 (O 120 h [.int x1, .int 0, .int ((h.1 67 0) - 1)]) (fun h1 v2 =>
  if v2 = 0 ∨ v2 = 1 then some (h1, some (.int v2)) else none) := by rfl
-- WhirlShaftsModel.isShaft(I)Z with (67, None)
set_option maxRecDepth 20000 in
theorem b122_0 (X : q_X) (O : q_O) (n : Nat) (h : q_S) (x1 : Int32) : q_go e_122 X O (n + 1) 0 [(0, .ref 67), (1, .int x1)] [] h =
  q_c1 (O 120 h [.int x1, .int 0, .int ((h.1 67 0) - 2)]) (fun h1 v2 =>
  if v2 = 0 ∨ v2 = 1 then some (h1, some (.int v2)) else none) := by rfl
-- WhirlShaftsModel.isBy(I)Z with (None,)
set_option maxRecDepth 20000 in
theorem b123_0 (X : q_X) (O : q_O) (n : Nat) (h : q_S) (x0 : Int32) : q_go e_123 X O (n + 1) 0 [(0, .int x0)] [] h =
  q_c1 (O 120 h [.int x0, .int 1, .int 16]) (fun h1 v2 =>
  if v2 = 0 ∨ v2 = 1 then some (h1, some (.int v2)) else none) := by rfl
-- WhirlShaftsModel.isRateOf(II)Z with (None, None)
set_option maxRecDepth 20000 in
theorem b124_0 (X : q_X) (O : q_O) (n : Nat) (h : q_S) (x0 : Int32) (x1 : Int32) : q_go e_124 X O (n + 1) 0 [(0, .int x0), (1, .int x1)] [] h =
  q_c1 (O 120 h [.int x0, .int 0, .int 9999]) (fun h1 v2 =>
  if v2 = 0 then
    some (h1, some (.int 0))
  else
    q_c1 (O 123 h1 [.int x1]) (fun h3 v4 =>
    if v4 = 0 then
      some (h3, some (.int 0))
    else
      some (h3, some (.int 1)))) := by rfl
-- WhirlShaftsModel.weighs(I)I with (67, None)
set_option maxRecDepth 20000 in
theorem b125_0 (X : q_X) (O : q_O) (n : Nat) (h : q_S) (x1 : Int32) : q_go e_125 X O (n + 1) 0 [(0, .ref 67), (1, .int x1)] [] h =
  q_ix x1 8 (fun j1 =>
  if 2 = 0 then none else
  q_ix x1 8 (fun j2 =>
  if (h.1 68 j2) = 1 then
    q_ix x1 8 (fun j3 =>
    some (h, some (.int (2 * (h.1 69 j3)))))
  else if (h.1 68 j2) = 2 then
    some (h, some (.int (((h.1 69 j1) + 1) / 2)))
  else if (h.1 68 j2) = 3 then
    q_ix x1 8 (fun j4 =>
    some (h, some (.int ((2 * (h.1 69 j4)) + 3))))
  else if (h.1 68 j2) = 4 then
    if 2 = 0 then none else
    if ((((h.1 69 j1) + 1) / 2) - ((h.1 67 1) / 2)) < 1 then
      some (h, some (.int 1))
    else
      if 2 = 0 then none else
      some (h, some (.int ((((h.1 69 j1) + 1) / 2) - ((h.1 67 1) / 2))))
  else 
    q_ix x1 8 (fun j5 =>
    some (h, some (.int (h.1 69 j5)))))) := by rfl
-- WhirlShaftsModel.reduces()V with (67,)
set_option maxRecDepth 20000 in
theorem b126_0 (X : q_X) (O : q_O) (n : Nat) (h : q_S)  : q_go e_126 X O (n + 1) 0 [(0, .ref 67)] [] h =
  q_go e_126 X O n 4 [(0, .ref 67), (1, .int 1), (2, .int 0)] [] h := by rfl
set_option maxRecDepth 20000 in
theorem b126_4 (X : q_X) (O : q_O) (n : Nat) (h : q_S) (x1 : Int32) (x2 : Int32) : q_go e_126 X O (n + 1) 4 [(0, .ref 67), (1, .int x1), (2, .int x2)] [] h =
  if x2 < (h.1 67 0) then
    q_c1 (O 125 h [.ref 67, .int x2]) (fun h1 v2 =>
    q_ix x2 8 (fun j3 =>
    q_ix x2 8 (fun j4 =>
    if (h1.1 67 2) = 1 then
      if 20 = 0 then none else
      q_go e_126 X O n 83 [(0, .ref 67), (1, .int x1), (2, .int x2)] [.int (v2 - ((v2 * (h1.1 67 1)) / 20)), .int ((q_si h1 73 j3 (x1 * x1)).1 73 j4), .int x2, .ref 74] (q_si h1 73 j3 (x1 * x1))
    else
      if (h1.1 67 2) = 2 then
        if 10 = 0 then none else
        q_go e_126 X O n 83 [(0, .ref 67), (1, .int x1), (2, .int x2)] [.int (v2 + ((v2 * (h1.1 67 1)) / 10)), .int ((q_si h1 73 j3 (x1 * x1)).1 73 j4), .int x2, .ref 74] (q_si h1 73 j3 (x1 * x1))
      else
        q_go e_126 X O n 83 [(0, .ref 67), (1, .int x1), (2, .int x2)] [.int v2, .int ((q_si h1 73 j3 (x1 * x1)).1 73 j4), .int x2, .ref 74] (q_si h1 73 j3 (x1 * x1)))))
  else
    some (h, none) := by rfl
set_option maxRecDepth 20000 in
theorem b126_83 (X : q_X) (O : q_O) (n : Nat) (h : q_S) (x1 : Int32) (x2 : Int32) (s0 : Int32) (s1 : Int32) (s2 : Int32) : q_go e_126 X O (n + 1) 83 [(0, .ref 67), (1, .int x1), (2, .int x2)] [.int s0, .int s1, .int s2, .ref 74] h =
  q_ix s2 8 (fun j1 =>
  q_ix x2 8 (fun j2 =>
  q_ix x2 8 (fun j3 =>
  q_ix x2 8 (fun j4 =>
  if x2 < ((h.1 67 0) - 1) then
    q_ix x2 8 (fun j5 =>
    q_ix x2 8 (fun j6 =>
    q_go e_126 X O n 136 [(0, .ref 67), (1, .int x1), (2, .int x2)] [.int ((h.1 73 j5) * (h.1 71 j6)), .int x2, .ref 76] (q_si (q_si h 74 j1 (s1 * s0)) 75 j4 ((h.1 73 j2) * (h.1 70 j3)))))
  else
    q_go e_126 X O n 136 [(0, .ref 67), (1, .int x1), (2, .int x2)] [.int 0, .int x2, .ref 76] (q_si (q_si h 74 j1 (s1 * s0)) 75 j4 ((h.1 73 j2) * (h.1 70 j3))))))) := by rfl
set_option maxRecDepth 20000 in
theorem b126_136 (X : q_X) (O : q_O) (n : Nat) (h : q_S) (x1 : Int32) (x2 : Int32) (s0 : Int32) (s1 : Int32) : q_go e_126 X O (n + 1) 136 [(0, .ref 67), (1, .int x1), (2, .int x2)] [.int s0, .int s1, .ref 76] h =
  q_ix s1 8 (fun j1 =>
  q_ix x2 8 (fun j2 =>
  q_ix x2 8 (fun j3 =>
  if 0 < x2 then
    q_ix (x2 - 1) 8 (fun j4 =>
    q_go e_126 X O n 171 [(0, .ref 67), (1, .int x1), (2, .int x2)] [.int ((q_si h 76 j1 s0).1 76 j4), .int ((h.1 75 j2) + ((q_si h 76 j1 s0).1 76 j3)), .int x2, .ref 77] (q_si h 76 j1 s0))
  else
    q_go e_126 X O n 171 [(0, .ref 67), (1, .int x1), (2, .int x2)] [.int 0, .int ((h.1 75 j2) + ((q_si h 76 j1 s0).1 76 j3)), .int x2, .ref 77] (q_si h 76 j1 s0)))) := by rfl
set_option maxRecDepth 20000 in
theorem b126_171 (X : q_X) (O : q_O) (n : Nat) (h : q_S) (x1 : Int32) (x2 : Int32) (s0 : Int32) (s1 : Int32) (s2 : Int32) : q_go e_126 X O (n + 1) 171 [(0, .ref 67), (1, .int x1), (2, .int x2)] [.int s0, .int s1, .int s2, .ref 77] h =
  q_ix s2 8 (fun j1 =>
  if x2 < ((h.1 67 0) - 1) then
    q_ix x2 8 (fun j2 =>
    q_go e_126 X O n 4 [(0, .ref 67), (1, .int (x1 * (h.1 72 j2))), (2, .int (x2 + 1))] [] (q_si h 77 j1 (s1 + s0)))
  else
    q_go e_126 X O n 4 [(0, .ref 67), (1, .int (x1 * 1)), (2, .int (x2 + 1))] [] (q_si h 77 j1 (s1 + s0))) := by rfl
-- WhirlShaftsModel.turnsInAll()I with (67,)
set_option maxRecDepth 20000 in
theorem b127_0 (X : q_X) (O : q_O) (n : Nat) (h : q_S)  : q_go e_127 X O (n + 1) 0 [(0, .ref 67)] [] h =
  q_go e_127 X O n 4 [(0, .ref 67), (1, .int 1), (2, .int 0)] [] h := by rfl
set_option maxRecDepth 20000 in
theorem b127_4 (X : q_X) (O : q_O) (n : Nat) (h : q_S) (x1 : Int32) (x2 : Int32) : q_go e_127 X O (n + 1) 4 [(0, .ref 67), (1, .int x1), (2, .int x2)] [] h =
  if x2 < ((h.1 67 0) - 1) then
    q_ix x2 8 (fun j1 =>
    q_go e_127 X O n 4 [(0, .ref 67), (1, .int (x1 * (h.1 72 j1))), (2, .int (x2 + 1))] [] h)
  else
    some (h, some (.int x1)) := by rfl
-- WhirlShaftsModel.signAt(I)I with (67, None)
set_option maxRecDepth 20000 in
theorem b128_0 (X : q_X) (O : q_O) (n : Nat) (h : q_S) (x1 : Int32) : q_go e_128 X O (n + 1) 0 [(0, .ref 67), (1, .int x1)] [] h =
  q_ix ((x1 + 10) - 1) 30 (fun j1 =>
  if (lg_cmp (h.2.1 78 j1) (Int64.ofNat 0)) < 0 then
    some (h, some (.int (-1)))
  else
    q_go e_128 X O n 22 [(0, .ref 67), (1, .int x1), (2, .int 0), (3, .int 0)] [] h) := by rfl
set_option maxRecDepth 20000 in
theorem b128_22 (X : q_X) (O : q_O) (n : Nat) (h : q_S) (x1 : Int32) (x2 : Int32) (x3 : Int32) : q_go e_128 X O (n + 1) 22 [(0, .ref 67), (1, .int x1), (2, .int x2), (3, .int x3)] [] h =
  if x3 < 10 then
    q_ix (x1 + x3) 30 (fun j1 =>
    if (lg_cmp (h.2.1 78 j1) (Int64.ofNat 0)) = 0 then
      q_go e_128 X O n 22 [(0, .ref 67), (1, .int x1), (2, .int (x2 ||| 0)), (3, .int (x3 + 1))] [] h
    else
      q_go e_128 X O n 22 [(0, .ref 67), (1, .int x1), (2, .int (x2 ||| 1)), (3, .int (x3 + 1))] [] h)
  else
    if x2 = 0 then
      some (h, some (.int 0))
    else
      some (h, some (.int 1)) := by rfl
-- WhirlShaftsModel.restOf(J)I with (None,)
set_option maxRecDepth 20000 in
theorem b129_0 (X : q_X) (O : q_O) (n : Nat) (h : q_S) (x0 : Int64) : q_go e_129 X O (n + 1) 0 [(0, .long x0)] [] h =
  if (Int64.ofNat 10007) = 0 then none else
  if (Int64.ofNat 10007) = 0 then none else
  some (h, some (.int ((((((x0 - x0 / (Int64.ofNat 10007) * (Int64.ofNat 10007)) + (Int64.ofNat 10007)) - ((x0 - x0 / (Int64.ofNat 10007) * (Int64.ofNat 10007)) + (Int64.ofNat 10007)) / (Int64.ofNat 10007) * (Int64.ofNat 10007)) : Int64)).toInt32))) := by rfl
-- WhirlShaftsModel.transfer(IIII)I with (67, None, None, None, None)
set_option maxRecDepth 20000 in
theorem b130_0 (X : q_X) (O : q_O) (n : Nat) (h : q_S) (x1 : Int32) (x2 : Int32) (x3 : Int32) (x4 : Int32) : q_go e_130 X O (n + 1) 0 [(0, .ref 67), (1, .int x1), (2, .int x2), (3, .int x3), (4, .int x4)] [] h =
  q_go e_130 X O n 3 [(0, .ref 67), (1, .int x1), (2, .int x2), (3, .int x3), (4, .int x4), (5, .int 0)] [] h := by rfl
set_option maxRecDepth 20000 in
theorem b130_3 (X : q_X) (O : q_O) (n : Nat) (h : q_S) (x1 : Int32) (x2 : Int32) (x3 : Int32) (x4 : Int32) (x5 : Int32) : q_go e_130 X O (n + 1) 3 [(0, .ref 67), (1, .int x1), (2, .int x2), (3, .int x3), (4, .int x4), (5, .int x5)] [] h =
  if x5 < 30 then
    q_ix x5 30 (fun j1 =>
    q_go e_130 X O n 3 [(0, .ref 67), (1, .int x1), (2, .int x2), (3, .int x3), (4, .int x4), (5, .int (x5 + 1))] [] (q_sl h 78 j1 (Int64.ofNat 0)))
  else
    q_ix 0 30 (fun j2 =>
    q_ix 0 9 (fun j3 =>
    q_ix 0 9 (fun j4 =>
    q_go e_130 X O n 54 [(0, .ref 67), (1, .int x1), (2, .int x2), (3, .int x3), (4, .int x4), (5, .int 0), (6, .int 1), (7, .int x1)] [] (q_si (q_si (q_sl h 78 j2 (Int64.ofNat 1)) 79 j3 1) 80 j4 1)))) := by rfl
set_option maxRecDepth 20000 in
theorem b130_54 (X : q_X) (O : q_O) (n : Nat) (h : q_S) (x1 : Int32) (x2 : Int32) (x3 : Int32) (x4 : Int32) (x5 : Int32) (x6 : Int32) (x7 : Int32) : q_go e_130 X O (n + 1) 54 [(0, .ref 67), (1, .int x1), (2, .int x2), (3, .int x3), (4, .int x4), (5, .int x5), (6, .int x6), (7, .int x7)] [] h =
  if x2 < x7 then
    some (h, some (.int x5))
  else
    q_ix x7 8 (fun j1 =>
    q_ix x7 8 (fun j2 =>
    if x7 = x1 then
      q_go e_130 X O n 133 [(0, .ref 67), (1, .int x1), (2, .int x2), (3, .int x3), (4, .int x4), (5, .int x5), (6, .int x6), (7, .int x7), (8, .int ((x7 - x1) + 1)), (9, .long ((((x4 : Int32)).toInt64 * (((h.1 77 j1) : Int32)).toInt64) - (((x3 : Int32)).toInt64 * (((h.1 74 j2) : Int32)).toInt64)))] [.long (Int64.ofNat 0)] h
    else
      q_ix (x7 - 1) 8 (fun j3 =>
      q_ix (x7 - 1) 8 (fun j4 =>
      q_go e_130 X O n 133 [(0, .ref 67), (1, .int x1), (2, .int x2), (3, .int x3), (4, .int x4), (5, .int x5), (6, .int x6), (7, .int x7), (8, .int ((x7 - x1) + 1)), (9, .long ((((x4 : Int32)).toInt64 * (((h.1 77 j1) : Int32)).toInt64) - (((x3 : Int32)).toInt64 * (((h.1 74 j2) : Int32)).toInt64)))] [.long (((((x4 : Int32)).toInt64 * ((x4 : Int32)).toInt64) * (((h.1 76 j3) : Int32)).toInt64) * (((h.1 76 j4) : Int32)).toInt64)] h)))) := by rfl
set_option maxRecDepth 20000 in
theorem b130_133 (X : q_X) (O : q_O) (n : Nat) (h : q_S) (x1 : Int32) (x2 : Int32) (x3 : Int32) (x4 : Int32) (x5 : Int32) (x6 : Int32) (x7 : Int32) (x8 : Int32) (x9 : Int64) (s0 : Int64) : q_go e_130 X O (n + 1) 133 [(0, .ref 67), (1, .int x1), (2, .int x2), (3, .int x3), (4, .int x4), (5, .int x5), (6, .int x6), (7, .int x7), (8, .int x8), (9, .long x9)] [.long s0] h =
  if 3 = 0 then none else
  if 3 = 0 then none else
  if 3 = 0 then none else
  q_go e_130 X O n 172 [(0, .ref 67), (1, .int x1), (2, .int x2), (3, .int x3), (4, .int x4), (5, .int x5), (6, .int x6), (7, .int x7), (8, .int x8), (9, .long x9), (11, .long s0), (13, .int (10 * (x8 - x8 / 3 * 3))), (14, .int (10 * ((x8 + 2) - (x8 + 2) / 3 * 3))), (15, .int (10 * ((x8 + 1) - (x8 + 1) / 3 * 3))), (16, .long (Int64.ofNat 0)), (18, .int 0)] [] h := by rfl
set_option maxRecDepth 20000 in
theorem b130_172 (X : q_X) (O : q_O) (n : Nat) (h : q_S) (x1 : Int32) (x2 : Int32) (x3 : Int32) (x4 : Int32) (x5 : Int32) (x6 : Int32) (x7 : Int32) (x8 : Int32) (x9 : Int64) (x11 : Int64) (x13 : Int32) (x14 : Int32) (x15 : Int32) (x16 : Int64) (x18 : Int32) : q_go e_130 X O (n + 1) 172 [(0, .ref 67), (1, .int x1), (2, .int x2), (3, .int x3), (4, .int x4), (5, .int x5), (6, .int x6), (7, .int x7), (8, .int x8), (9, .long x9), (11, .long x11), (13, .int x13), (14, .int x14), (15, .int x15), (16, .long x16), (18, .int x18)] [] h =
  if x18 < 10 then
    q_ix (x14 + x18) 30 (fun j1 =>
    q_ix (x15 + x18) 30 (fun j2 =>
    if x18 = 9 then
      q_ix (x13 + x18) 30 (fun j3 =>
      q_go e_130 X O n 172 [(0, .ref 67), (1, .int x1), (2, .int x2), (3, .int x3), (4, .int x4), (5, .int x5), (6, .int x6), (7, .int x7), (8, .int x8), (9, .long x9), (11, .long x11), (13, .int x13), (14, .int x14), (15, .int x15), (16, .long ((((x9 * (h.2.1 78 j1)) - (x11 * (h.2.1 78 j2))) + x16) >>> (((28 : Int32)).toInt64 &&& 63))), (18, .int (x18 + 1))] [] (q_sl h 78 j3 (((x9 * (h.2.1 78 j1)) - (x11 * (h.2.1 78 j2))) + x16)))
    else
      q_ix (x13 + x18) 30 (fun j4 =>
      q_go e_130 X O n 172 [(0, .ref 67), (1, .int x1), (2, .int x2), (3, .int x3), (4, .int x4), (5, .int x5), (6, .int x6), (7, .int x7), (8, .int x8), (9, .long x9), (11, .long x11), (13, .int x13), (14, .int x14), (15, .int x15), (16, .long ((((x9 * (h.2.1 78 j1)) - (x11 * (h.2.1 78 j2))) + x16) >>> (((28 : Int32)).toInt64 &&& 63))), (18, .int (x18 + 1))] [] (q_sl h 78 j4 ((((x9 * (h.2.1 78 j1)) - (x11 * (h.2.1 78 j2))) + x16) &&& (Int64.ofNat 268435455))))))
  else
    q_c1 (O 128 h [.ref 67, .int x13]) (fun h5 v6 =>
    q_ix x8 9 (fun j7 =>
    q_c1 (O 129 (q_si h5 79 j7 v6) [.long x9]) (fun h8 v9 =>
    q_ix (x8 - 1) 9 (fun j10 =>
    if 1 < x8 then
      q_c1 (O 129 h8 [.long x11]) (fun h11 v12 =>
      q_ix (x8 - 2) 9 (fun j13 =>
      q_go e_130 X O n 312 [(0, .ref 67), (1, .int x1), (2, .int x2), (3, .int x3), (4, .int x4), (5, .int x5), (6, .int x6), (7, .int x7), (8, .int x8), (18, .long ((((v9 : Int32)).toInt64 * (((h8.1 80 j10) : Int32)).toInt64) - (((v12 : Int32)).toInt64 * (((h11.1 80 j13) : Int32)).toInt64)))] [] h11))
    else
      q_go e_130 X O n 312 [(0, .ref 67), (1, .int x1), (2, .int x2), (3, .int x3), (4, .int x4), (5, .int x5), (6, .int x6), (7, .int x7), (8, .int x8), (18, .long (((v9 : Int32)).toInt64 * (((h8.1 80 j10) : Int32)).toInt64))] [] h8)))) := by rfl
set_option maxRecDepth 20000 in
theorem b130_312 (X : q_X) (O : q_O) (n : Nat) (h : q_S) (x1 : Int32) (x2 : Int32) (x3 : Int32) (x4 : Int32) (x5 : Int32) (x6 : Int32) (x7 : Int32) (x8 : Int32) (x18 : Int64) : q_go e_130 X O (n + 1) 312 [(0, .ref 67), (1, .int x1), (2, .int x2), (3, .int x3), (4, .int x4), (5, .int x5), (6, .int x6), (7, .int x7), (8, .int x8), (18, .long x18)] [] h =
  q_c1 (O 129 h [.long x18]) (fun h1 v2 =>
  q_ix x8 9 (fun j3 =>
  q_ix x8 9 (fun j4 =>
  if (h1.1 79 j4) = 0 then
    q_go e_130 X O n 346 [(0, .ref 67), (1, .int x1), (2, .int x2), (3, .int x3), (4, .int x4), (5, .int x5), (6, .int x6), (7, .int x7)] [.int x6] (q_si h1 80 j3 v2)
  else
    q_ix x8 9 (fun j5 =>
    q_go e_130 X O n 346 [(0, .ref 67), (1, .int x1), (2, .int x2), (3, .int x3), (4, .int x4), (5, .int x5), (6, .int x6), (7, .int x7)] [.int (h1.1 79 j5)] (q_si h1 80 j3 v2))))) := by rfl
set_option maxRecDepth 20000 in
theorem b130_346 (X : q_X) (O : q_O) (n : Nat) (h : q_S) (x1 : Int32) (x2 : Int32) (x3 : Int32) (x4 : Int32) (x5 : Int32) (x6 : Int32) (x7 : Int32) (s0 : Int32) : q_go e_130 X O (n + 1) 346 [(0, .ref 67), (1, .int x1), (2, .int x2), (3, .int x3), (4, .int x4), (5, .int x5), (6, .int x6), (7, .int x7)] [.int s0] h =
  if s0 = x6 then
    q_go e_130 X O n 54 [(0, .ref 67), (1, .int x1), (2, .int x2), (3, .int x3), (4, .int x4), (5, .int (x5 + 0)), (6, .int s0), (7, .int (x7 + 1))] [] h
  else
    q_go e_130 X O n 54 [(0, .ref 67), (1, .int x1), (2, .int x2), (3, .int x3), (4, .int x4), (5, .int (x5 + 1)), (6, .int s0), (7, .int (x7 + 1))] [] h := by rfl
-- WhirlShaftsModel.belowAll(II)I with (67, None, None)
set_option maxRecDepth 20000 in
theorem b131_0 (X : q_X) (O : q_O) (n : Nat) (h : q_S) (x1 : Int32) (x2 : Int32) : q_go e_131 X O (n + 1) 0 [(0, .ref 67), (1, .int x1), (2, .int x2)] [] h =
  q_c1 (O 130 h [.ref 67, .int 0, .int ((h.1 67 0) - 1), .int x1, .int x2]) (fun h1 v2 =>
  some (h1, some (.int v2))) := by rfl
-- WhirlShaftsModel.topNow()I with (67,)
set_option maxRecDepth 20000 in
theorem b132_0 (X : q_X) (O : q_O) (n : Nat) (h : q_S)  : q_go e_132 X O (n + 1) 0 [(0, .ref 67)] [] h =
  q_go e_132 X O n 4 [(0, .ref 67), (1, .int (-1)), (2, .int 0)] [] h := by rfl
set_option maxRecDepth 20000 in
theorem b132_4 (X : q_X) (O : q_O) (n : Nat) (h : q_S) (x1 : Int32) (x2 : Int32) : q_go e_132 X O (n + 1) 4 [(0, .ref 67), (1, .int x1), (2, .int x2)] [] h =
  if x2 < (h.1 67 0) then
    q_ix x2 8 (fun j1 =>
    q_ix x2 8 (fun j2 =>
    if (h.1 74 j2) = 0 then none else
    if x1 < ((2 * (h.1 77 j1)) / (h.1 74 j2)) then
      q_go e_132 X O n 4 [(0, .ref 67), (1, .int ((2 * (h.1 77 j1)) / (h.1 74 j2))), (2, .int (x2 + 1))] [] h
    else
      q_go e_132 X O n 4 [(0, .ref 67), (1, .int x1), (2, .int (x2 + 1))] [] h))
  else
    some (h, some (.int (x1 + 1))) := by rfl
-- WhirlShaftsModel.fenceOf(II)I with (67, None, None)
set_option maxRecDepth 20000 in
theorem b133_0 (X : q_X) (O : q_O) (n : Nat) (h : q_S) (x1 : Int32) (x2 : Int32) : q_go e_133 X O (n + 1) 0 [(0, .ref 67), (1, .int x1), (2, .int x2)] [] h =
  q_c0 (O 126 h [.ref 67]) (fun h1 =>
  q_c1 (O 132 h1 [.ref 67]) (fun h2 v3 =>
  q_go e_133 X O n 14 [(0, .ref 67), (1, .int x1), (2, .int x2), (3, .int 0), (4, .int (v3 * x2))] [] h2)) := by rfl
set_option maxRecDepth 20000 in
theorem b133_14 (X : q_X) (O : q_O) (n : Nat) (h : q_S) (x1 : Int32) (x2 : Int32) (x3 : Int32) (x4 : Int32) : q_go e_133 X O (n + 1) 14 [(0, .ref 67), (1, .int x1), (2, .int x2), (3, .int x3), (4, .int x4)] [] h =
  if x3 < x4 then
    if 2 = 0 then none else
    q_c1 (O 131 h [.ref 67, .int (x3 + (((x4 - x3) + 1) / 2)), .int x2]) (fun h1 v2 =>
    if x1 < v2 then
      q_go e_133 X O n 14 [(0, .ref 67), (1, .int x1), (2, .int x2), (3, .int x3), (4, .int ((x3 + (((x4 - x3) + 1) / 2)) - 1))] [] h1
    else
      q_go e_133 X O n 14 [(0, .ref 67), (1, .int x1), (2, .int x2), (3, .int (x3 + (((x4 - x3) + 1) / 2))), (4, .int x4)] [] h1)
  else
    some (h, some (.int x3)) := by rfl
-- WhirlShaftsModel.forgetsChanges()V with (67,)
set_option maxRecDepth 20000 in
theorem b134_0 (X : q_X) (O : q_O) (n : Nat) (h : q_S)  : q_go e_134 X O (n + 1) 0 [(0, .ref 67)] [] h =
  some ((q_si (q_si h 67 20 0) 67 21 0), none) := by rfl
-- WhirlShaftsModel.disc(III)I with (67, None, None, None)
set_option maxRecDepth 20000 in
theorem b135_0 (X : q_X) (O : q_O) (n : Nat) (h : q_S) (x1 : Int32) (x2 : Int32) (x3 : Int32) : q_go e_135 X O (n + 1) 0 [(0, .ref 67), (1, .int x1), (2, .int x2), (3, .int x3)] [] h =
  q_c1 (O 120 h [.int x1, .int 0, .int 4]) (fun h1 v2 =>
  if v2 = 0 then
    some (h1, some (.int (-1)))
  else
    q_c1 (O 120 h1 [.int x2, .int 1, .int 99]) (fun h3 v4 =>
    if v4 = 0 then
      some (h3, some (.int (-1)))
    else
      if 0 < (h3.1 67 0) then
        q_c1 (O 120 h3 [.int x3, .int 1, .int 99]) (fun h5 v6 =>
        if v6 = 0 then
          some (h5, some (.int (-1)))
        else
          q_go e_135 X O n 38 [(0, .ref 67), (1, .int x1), (2, .int x2), (3, .int x3)] [] h5)
      else
        q_go e_135 X O n 38 [(0, .ref 67), (1, .int x1), (2, .int x2), (3, .int x3)] [] h3)) := by rfl
set_option maxRecDepth 20000 in
theorem b135_38 (X : q_X) (O : q_O) (n : Nat) (h : q_S) (x1 : Int32) (x2 : Int32) (x3 : Int32) : q_go e_135 X O (n + 1) 38 [(0, .ref 67), (1, .int x1), (2, .int x2), (3, .int x3)] [] h =
  if (h.1 67 0) = 8 then
    some (h, some (.int (-3)))
  else
    q_ix (h.1 67 0) 8 (fun j1 =>
    q_ix (h.1 67 0) 8 (fun j2 =>
    q_ix (h.1 67 0) 8 (fun j3 =>
    if 0 < (h.1 67 0) then
      q_ix ((h.1 67 0) - 1) 8 (fun j4 =>
      q_ix ((h.1 67 0) - 1) 8 (fun j5 =>
      q_go e_135 X O n 111 [(0, .ref 67)] [] (q_si (q_si (q_si (q_si (q_si h 68 j1 x1) 69 j2 x2) 70 j3 0) 71 j4 x3) 72 j5 1)))
    else
      q_go e_135 X O n 111 [(0, .ref 67)] [] (q_si (q_si (q_si h 68 j1 x1) 69 j2 x2) 70 j3 0)))) := by rfl
set_option maxRecDepth 20000 in
theorem b135_111 (X : q_X) (O : q_O) (n : Nat) (h : q_S)  : q_go e_135 X O (n + 1) 111 [(0, .ref 67)] [] h =
  q_c0 (O 134 h [.ref 67]) (fun h1 =>
  some ((q_si h1 67 0 ((h1.1 67 0) + 1)), some (.int (h1.1 67 0)))) := by rfl
-- WhirlShaftsModel.cut()I with (67,)
set_option maxRecDepth 20000 in
theorem b136_0 (X : q_X) (O : q_O) (n : Nat) (h : q_S)  : q_go e_136 X O (n + 1) 0 [(0, .ref 67)] [] h =
  if (h.1 67 0) = 0 then
    some (h, some (.int (-5)))
  else
    q_c0 (O 134 h [.ref 67]) (fun h1 =>
    some ((q_si h1 67 0 ((h1.1 67 0) - 1)), some (.int ((h1.1 67 0) - 1)))) := by rfl
-- WhirlShaftsModel.clear()I with (67,)
set_option maxRecDepth 20000 in
theorem b137_0 (X : q_X) (O : q_O) (n : Nat) (h : q_S)  : q_go e_137 X O (n + 1) 0 [(0, .ref 67)] [] h =
  q_c0 (O 134 (q_si (q_si (q_si h 67 0 0) 67 1 0) 67 2 0) [.ref 67]) (fun h1 =>
  some (h1, some (.int (h.1 67 0)))) := by rfl
-- WhirlShaftsModel.is(II)I with (67, None, None)
set_option maxRecDepth 20000 in
theorem b138_0 (X : q_X) (O : q_O) (n : Nat) (h : q_S) (x1 : Int32) (x2 : Int32) : q_go e_138 X O (n + 1) 0 [(0, .ref 67), (1, .int x1), (2, .int x2)] [] h =
  if x1 = 0 then
    q_ix x2 8 (fun j1 =>
    some (h, some (.int (h.1 69 j1))))
  else if x1 = 1 then
    q_ix x2 8 (fun j2 =>
    some (h, some (.int (h.1 71 j2))))
  else if x1 = 2 then
    q_ix x2 8 (fun j3 =>
    some (h, some (.int (h.1 70 j3))))
  else if x1 = 3 then
    q_ix x2 8 (fun j4 =>
    some (h, some (.int (h.1 72 j4))))
  else if x1 = 4 then
    some (h, some (.int (h.1 67 1)))
  else 
    some (h, some (.int (h.1 67 2))) := by rfl
-- WhirlShaftsModel.becomes(III)V with (67, None, None, None)
set_option maxRecDepth 20000 in
theorem b139_0 (X : q_X) (O : q_O) (n : Nat) (h : q_S) (x1 : Int32) (x2 : Int32) (x3 : Int32) : q_go e_139 X O (n + 1) 0 [(0, .ref 67), (1, .int x1), (2, .int x2), (3, .int x3)] [] h =
  if x1 = 0 then
    q_ix x2 8 (fun j1 =>
    some ((q_si h 69 j1 x3), none))
  else if x1 = 1 then
    q_ix x2 8 (fun j2 =>
    some ((q_si h 71 j2 x3), none))
  else if x1 = 2 then
    q_ix x2 8 (fun j3 =>
    some ((q_si h 70 j3 x3), none))
  else if x1 = 3 then
    q_ix x2 8 (fun j4 =>
    some ((q_si h 72 j4 x3), none))
  else if x1 = 4 then
    some ((q_si h 67 1 x3), none)
  else 
    some ((q_si h 67 2 x3), none) := by rfl
-- WhirlShaftsModel.isOne(II)Z with (67, None, None)
set_option maxRecDepth 20000 in
theorem b140_0 (X : q_X) (O : q_O) (n : Nat) (h : q_S) (x1 : Int32) (x2 : Int32) : q_go e_140 X O (n + 1) 0 [(0, .ref 67), (1, .int x1), (2, .int x2)] [] h =
  if x1 = 0 then
    q_c1 (O 121 h [.ref 67, .int x2]) (fun h1 v2 =>
    if v2 = 0 ∨ v2 = 1 then some (h1, some (.int v2)) else none)
  else if x1 = 1 then
    q_c1 (O 122 h [.ref 67, .int x2]) (fun h3 v4 =>
    if v4 = 0 ∨ v4 = 1 then some (h3, some (.int v4)) else none)
  else if x1 = 2 then
    q_c1 (O 121 h [.ref 67, .int x2]) (fun h5 v6 =>
    if v6 = 0 ∨ v6 = 1 then some (h5, some (.int v6)) else none)
  else if x1 = 3 then
    q_c1 (O 122 h [.ref 67, .int x2]) (fun h7 v8 =>
    if v8 = 0 ∨ v8 = 1 then some (h7, some (.int v8)) else none)
  else 
    q_c1 (O 120 h [.int x1, .int 4, .int 5]) (fun h9 v10 =>
    if v10 = 0 ∨ v10 = 1 then some (h9, some (.int v10)) else none) := by rfl
-- WhirlShaftsModel.leastOf(I)I with (None,)
set_option maxRecDepth 20000 in
theorem b141_0 (X : q_X) (O : q_O) (n : Nat) (h : q_S) (x0 : Int32) : q_go e_141 X O (n + 1) 0 [(0, .int x0)] [] h =
  if x0 = 0 then
    some (h, some (.int 1))
  else
    if x0 = 1 then
      some (h, some (.int 1))
    else
      if x0 = 3 then
        some (h, some (.int 1))
      else
        some (h, some (.int 0)) := by rfl
-- WhirlShaftsModel.mostOf(I)I with (None,)
set_option maxRecDepth 20000 in
theorem b142_0 (X : q_X) (O : q_O) (n : Nat) (h : q_S) (x0 : Int32) : q_go e_142 X O (n + 1) 0 [(0, .int x0)] [] h =
  if x0 < 3 then
    some (h, some (.int 99))
  else
    if x0 = 3 then
      some (h, some (.int 6))
    else
      if x0 = 4 then
        some (h, some (.int 9))
      else
        some (h, some (.int 2)) := by rfl
-- WhirlShaftsModel.refuses(III)I with (67, None, None, None)
set_option maxRecDepth 20000 in
theorem b143_0 (X : q_X) (O : q_O) (n : Nat) (h : q_S) (x1 : Int32) (x2 : Int32) (x3 : Int32) : q_go e_143 X O (n + 1) 0 [(0, .ref 67), (1, .int x1), (2, .int x2), (3, .int x3)] [] h =
  q_c1 (O 120 h [.int x1, .int 0, .int 5]) (fun h1 v2 =>
  if v2 = 0 then
    some (h1, some (.int (-1)))
  else
    q_c1 (O 140 h1 [.ref 67, .int x1, .int x2]) (fun h3 v4 =>
    if v4 = 0 then
      some (h3, some (.int (-1)))
    else
      q_c1 (O 141 h3 [.int x1]) (fun h5 v6 =>
      q_c1 (O 142 h5 [.int x1]) (fun h7 v8 =>
      q_c1 (O 120 h7 [.int x3, .int v6, .int v8]) (fun h9 v10 =>
      if v10 = 0 then
        some (h9, some (.int (-1)))
      else
        if x1 = 3 then
          q_c1 (O 127 h9 [.ref 67]) (fun h11 v12 =>
          q_ix x2 8 (fun j13 =>
          if (h11.1 72 j13) = 0 then none else
          if 6 < ((v12 / (h11.1 72 j13)) * x3) then
            some (h11, some (.int (-5)))
          else
            some (h11, some (.int 0))))
        else
          some (h9, some (.int 0))))))) := by rfl
-- WhirlShaftsModel.notes(IIII)V with (67, None, None, None, None)
set_option maxRecDepth 20000 in
theorem b144_0 (X : q_X) (O : q_O) (n : Nat) (h : q_S) (x1 : Int32) (x2 : Int32) (x3 : Int32) (x4 : Int32) : q_go e_144 X O (n + 1) 0 [(0, .ref 67), (1, .int x1), (2, .int x2), (3, .int x3), (4, .int x4)] [] h =
  if (h.1 67 20) = 12 then
    q_go e_144 X O n 12 [(0, .ref 67), (1, .int x1), (2, .int x2), (3, .int x3), (4, .int x4), (5, .int 1)] [] h
  else
    q_go e_144 X O n 99 [(0, .ref 67), (1, .int x1), (2, .int x2), (3, .int x3), (4, .int x4)] [] h := by rfl
set_option maxRecDepth 20000 in
theorem b144_12 (X : q_X) (O : q_O) (n : Nat) (h : q_S) (x1 : Int32) (x2 : Int32) (x3 : Int32) (x4 : Int32) (x5 : Int32) : q_go e_144 X O (n + 1) 12 [(0, .ref 67), (1, .int x1), (2, .int x2), (3, .int x3), (4, .int x4), (5, .int x5)] [] h =
  if x5 < 12 then
    q_ix x5 12 (fun j1 =>
    q_ix (x5 - 1) 12 (fun j2 =>
    q_ix x5 12 (fun j3 =>
    q_ix (x5 - 1) 12 (fun j4 =>
    q_ix x5 12 (fun j5 =>
    q_ix (x5 - 1) 12 (fun j6 =>
    q_ix x5 12 (fun j7 =>
    q_ix (x5 - 1) 12 (fun j8 =>
    q_go e_144 X O n 12 [(0, .ref 67), (1, .int x1), (2, .int x2), (3, .int x3), (4, .int x4), (5, .int (x5 + 1))] [] (q_si (q_si (q_si (q_si h 81 j2 (h.1 81 j1)) 82 j4 (h.1 82 j3)) 83 j6 (h.1 83 j5)) 84 j8 (h.1 84 j7))))))))))
  else
    q_go e_144 X O n 99 [(0, .ref 67), (1, .int x1), (2, .int x2), (3, .int x3), (4, .int x4)] [] (q_si h 67 20 ((h.1 67 20) - 1)) := by rfl
set_option maxRecDepth 20000 in
theorem b144_99 (X : q_X) (O : q_O) (n : Nat) (h : q_S) (x1 : Int32) (x2 : Int32) (x3 : Int32) (x4 : Int32) : q_go e_144 X O (n + 1) 99 [(0, .ref 67), (1, .int x1), (2, .int x2), (3, .int x3), (4, .int x4)] [] h =
  q_ix (h.1 67 20) 12 (fun j1 =>
  q_ix (h.1 67 20) 12 (fun j2 =>
  q_ix (h.1 67 20) 12 (fun j3 =>
  q_ix (h.1 67 20) 12 (fun j4 =>
  some ((q_si (q_si (q_si (q_si (q_si (q_si h 81 j1 x1) 82 j2 x2) 83 j3 x3) 84 j4 x4) 67 20 ((h.1 67 20) + 1)) 67 21 0), none))))) := by rfl
-- WhirlShaftsModel.set(III)I with (67, None, None, None)
set_option maxRecDepth 20000 in
theorem b145_0 (X : q_X) (O : q_O) (n : Nat) (h : q_S) (x1 : Int32) (x2 : Int32) (x3 : Int32) : q_go e_145 X O (n + 1) 0 [(0, .ref 67), (1, .int x1), (2, .int x2), (3, .int x3)] [] h =
  q_c1 (O 143 h [.ref 67, .int x1, .int x2, .int x3]) (fun h1 v2 =>
  if v2 = 0 then
    q_c1 (O 138 h1 [.ref 67, .int x1, .int x2]) (fun h3 v4 =>
    if v4 = x3 then
      some (h3, some (.int v4))
    else
      q_c0 (O 144 h3 [.ref 67, .int x1, .int x2, .int v4, .int x3]) (fun h5 =>
      q_c0 (O 139 h5 [.ref 67, .int x1, .int x2, .int x3]) (fun h6 =>
      some (h6, some (.int v4)))))
  else
    some (h1, some (.int v2))) := by rfl
-- WhirlShaftsModel.undo()I with (67,)
set_option maxRecDepth 20000 in
theorem b146_0 (X : q_X) (O : q_O) (n : Nat) (h : q_S)  : q_go e_146 X O (n + 1) 0 [(0, .ref 67)] [] h =
  if (h.1 67 20) = 0 then
    some (h, some (.int (-5)))
  else
    q_ix ((h.1 67 20) - 1) 12 (fun j1 =>
    q_ix ((h.1 67 20) - 1) 12 (fun j2 =>
    q_ix ((h.1 67 20) - 1) 12 (fun j3 =>
    q_c0 (O 139 (q_si (q_si h 67 20 ((h.1 67 20) - 1)) 67 21 ((h.1 67 21) + 1)) [.ref 67, .int (h.1 81 j1), .int (h.1 82 j2), .int (h.1 83 j3)]) (fun h4 =>
    some (h4, some (.int (h4.1 67 20))))))) := by rfl
-- WhirlShaftsModel.redo()I with (67,)
set_option maxRecDepth 20000 in
theorem b147_0 (X : q_X) (O : q_O) (n : Nat) (h : q_S)  : q_go e_147 X O (n + 1) 0 [(0, .ref 67)] [] h =
  if (h.1 67 21) = 0 then
    some (h, some (.int (-5)))
  else
    q_ix (h.1 67 20) 12 (fun j1 =>
    q_ix (h.1 67 20) 12 (fun j2 =>
    q_ix (h.1 67 20) 12 (fun j3 =>
    q_c0 (O 139 h [.ref 67, .int (h.1 81 j1), .int (h.1 82 j2), .int (h.1 84 j3)]) (fun h4 =>
    some ((q_si (q_si h4 67 20 ((h4.1 67 20) + 1)) 67 21 ((h4.1 67 21) - 1)), some (.int ((h4.1 67 21) - 1))))))) := by rfl
-- WhirlShaftsModel.of(II)I with (67, None, None)
set_option maxRecDepth 20000 in
theorem b148_0 (X : q_X) (O : q_O) (n : Nat) (h : q_S) (x1 : Int32) (x2 : Int32) : q_go e_148 X O (n + 1) 0 [(0, .ref 67), (1, .int x1), (2, .int x2)] [] h =
  q_c1 (O 120 h [.int x1, .int 0, .int 5]) (fun h1 v2 =>
  if v2 = 0 then
    if x1 = 12 then
      q_c1 (O 122 h1 [.ref 67, .int x2]) (fun h3 v4 =>
      if v4 = 0 then
        some (h3, some (.int (-1)))
      else
        q_c0 (O 126 h3 [.ref 67]) (fun h5 =>
        if x1 = 6 then
          q_ix x2 8 (fun j6 =>
          some (h5, some (.int (h5.1 68 j6))))
        else if x1 = 7 then
          q_c1 (O 125 h5 [.ref 67, .int x2]) (fun h7 v8 =>
          some (h7, some (.int v8)))
        else if x1 = 8 then
          q_ix x2 8 (fun j9 =>
          some (h5, some (.int (h5.1 74 j9))))
        else if x1 = 9 then
          q_ix x2 8 (fun j10 =>
          some (h5, some (.int (h5.1 75 j10))))
        else if x1 = 10 then
          q_ix x2 8 (fun j11 =>
          some (h5, some (.int (h5.1 73 j11))))
        else if x1 = 11 then
          q_ix x2 8 (fun j12 =>
          some (h5, some (.int (h5.1 77 j12))))
        else 
          q_ix x2 8 (fun j13 =>
          some (h5, some (.int (h5.1 76 j13))))))
    else
      q_c1 (O 120 h1 [.int x1, .int 6, .int 11]) (fun h14 v15 =>
      if v15 = 0 then
        some (h14, some (.int (-1)))
      else
        q_c1 (O 121 h14 [.ref 67, .int x2]) (fun h16 v17 =>
        if v17 = 0 then
          some (h16, some (.int (-1)))
        else
          q_c0 (O 126 h16 [.ref 67]) (fun h18 =>
          if x1 = 6 then
            q_ix x2 8 (fun j19 =>
            some (h18, some (.int (h18.1 68 j19))))
          else if x1 = 7 then
            q_c1 (O 125 h18 [.ref 67, .int x2]) (fun h20 v21 =>
            some (h20, some (.int v21)))
          else if x1 = 8 then
            q_ix x2 8 (fun j22 =>
            some (h18, some (.int (h18.1 74 j22))))
          else if x1 = 9 then
            q_ix x2 8 (fun j23 =>
            some (h18, some (.int (h18.1 75 j23))))
          else if x1 = 10 then
            q_ix x2 8 (fun j24 =>
            some (h18, some (.int (h18.1 73 j24))))
          else if x1 = 11 then
            q_ix x2 8 (fun j25 =>
            some (h18, some (.int (h18.1 77 j25))))
          else 
            q_ix x2 8 (fun j26 =>
            some (h18, some (.int (h18.1 76 j26)))))))
  else
    q_c1 (O 140 h1 [.ref 67, .int x1, .int x2]) (fun h27 v28 =>
    if v28 = 0 then
      some (h27, some (.int (-1)))
    else
      q_c1 (O 138 h27 [.ref 67, .int x1, .int x2]) (fun h29 v30 =>
      some (h29, some (.int v30))))) := by rfl
-- WhirlShaftsModel.below(II)I with (67, None, None)
set_option maxRecDepth 20000 in
theorem b149_0 (X : q_X) (O : q_O) (n : Nat) (h : q_S) (x1 : Int32) (x2 : Int32) : q_go e_149 X O (n + 1) 0 [(0, .ref 67), (1, .int x1), (2, .int x2)] [] h =
  q_c1 (O 124 h [.int x1, .int x2]) (fun h1 v2 =>
  if v2 = 0 then
    some (h1, some (.int (-1)))
  else
    q_c0 (O 126 h1 [.ref 67]) (fun h3 =>
    q_c1 (O 131 h3 [.ref 67, .int x1, .int x2]) (fun h4 v5 =>
    some (h4, some (.int v5))))) := by rfl
-- WhirlShaftsModel.isRate(II)I with (67, None, None)
set_option maxRecDepth 20000 in
theorem b150_0 (X : q_X) (O : q_O) (n : Nat) (h : q_S) (x1 : Int32) (x2 : Int32) : q_go e_150 X O (n + 1) 0 [(0, .ref 67), (1, .int x1), (2, .int x2)] [] h =
  q_c1 (O 124 h [.int x1, .int x2]) (fun h1 v2 =>
  if v2 = 0 then
    some (h1, some (.int (-1)))
  else
    q_c0 (O 126 h1 [.ref 67]) (fun h3 =>
    q_c1 (O 131 h3 [.ref 67, .int x1, .int x2]) (fun h4 v5 =>
    q_ix (h4.1 67 0) 9 (fun j6 =>
    if (h4.1 79 j6) = 0 then
      some (h4, some (.int 1))
    else
      some (h4, some (.int 0)))))) := by rfl
-- WhirlShaftsModel.sign(III)I with (67, None, None, None)
set_option maxRecDepth 20000 in
theorem b151_0 (X : q_X) (O : q_O) (n : Nat) (h : q_S) (x1 : Int32) (x2 : Int32) (x3 : Int32) : q_go e_151 X O (n + 1) 0 [(0, .ref 67), (1, .int x1), (2, .int x2), (3, .int x3)] [] h =
  q_c1 (O 121 h [.ref 67, .int x1]) (fun h1 v2 =>
  if v2 = 0 then
    some (h1, some (.int (-1000)))
  else
    q_c1 (O 124 h1 [.int x2, .int x3]) (fun h3 v4 =>
    if v4 = 0 then
      some (h3, some (.int (-1000)))
    else
      q_c0 (O 126 h3 [.ref 67]) (fun h5 =>
      q_c1 (O 131 h5 [.ref 67, .int x2, .int x3]) (fun h6 v7 =>
      q_ix x1 9 (fun j8 =>
      some (h6, some (.int (h6.1 79 j8)))))))) := by rfl
-- WhirlShaftsModel.nodes(II)I with (67, None, None)
set_option maxRecDepth 20000 in
theorem b152_0 (X : q_X) (O : q_O) (n : Nat) (h : q_S) (x1 : Int32) (x2 : Int32) : q_go e_152 X O (n + 1) 0 [(0, .ref 67), (1, .int x1), (2, .int x2)] [] h =
  q_c1 (O 124 h [.int x1, .int x2]) (fun h1 v2 =>
  if v2 = 0 then
    some (h1, some (.int (-1)))
  else
    q_c0 (O 126 h1 [.ref 67]) (fun h3 =>
    q_c1 (O 131 h3 [.ref 67, .int x1, .int x2]) (fun h4 v5 =>
    q_go e_152 X O n 29 [(0, .ref 67), (3, .int 0), (4, .int 1), (5, .int 0)] [] h4))) := by rfl
set_option maxRecDepth 20000 in
theorem b152_29 (X : q_X) (O : q_O) (n : Nat) (h : q_S) (x3 : Int32) (x4 : Int32) (x5 : Int32) : q_go e_152 X O (n + 1) 29 [(0, .ref 67), (3, .int x3), (4, .int x4), (5, .int x5)] [] h =
  if x5 < (h.1 67 0) then
    q_ix x5 9 (fun j1 =>
    if (h.1 79 j1) = 0 then
      q_go e_152 X O n 29 [(0, .ref 67), (3, .int x3), (4, .int x4), (5, .int (x5 + 1))] [] h
    else
      q_ix x5 9 (fun j2 =>
      if (h.1 79 j2) = x4 then
        q_go e_152 X O n 29 [(0, .ref 67), (3, .int x3), (4, .int x4), (5, .int (x5 + 1))] [] h
      else
        q_ix x5 9 (fun j3 =>
        q_go e_152 X O n 29 [(0, .ref 67), (3, .int (x3 + 1)), (4, .int (h.1 79 j3)), (5, .int (x5 + 1))] [] h)))
  else
    some (h, some (.int x3)) := by rfl
-- WhirlShaftsModel.rest(III)I with (67, None, None, None)
set_option maxRecDepth 20000 in
theorem b153_0 (X : q_X) (O : q_O) (n : Nat) (h : q_S) (x1 : Int32) (x2 : Int32) (x3 : Int32) : q_go e_153 X O (n + 1) 0 [(0, .ref 67), (1, .int x1), (2, .int x2), (3, .int x3)] [] h =
  q_c1 (O 120 h [.int x1, .int 0, .int (h.1 67 0)]) (fun h1 v2 =>
  if v2 = 0 then
    some (h1, some (.int (-1)))
  else
    q_c1 (O 124 h1 [.int x2, .int x3]) (fun h3 v4 =>
    if v4 = 0 then
      some (h3, some (.int (-1)))
    else
      q_c0 (O 126 h3 [.ref 67]) (fun h5 =>
      q_c1 (O 131 h5 [.ref 67, .int x2, .int x3]) (fun h6 v7 =>
      q_ix x1 9 (fun j8 =>
      some (h6, some (.int (h6.1 80 j8)))))))) := by rfl
-- WhirlShaftsModel.top()I with (67,)
set_option maxRecDepth 20000 in
theorem b154_0 (X : q_X) (O : q_O) (n : Nat) (h : q_S)  : q_go e_154 X O (n + 1) 0 [(0, .ref 67)] [] h =
  q_c0 (O 126 h [.ref 67]) (fun h1 =>
  q_c1 (O 132 h1 [.ref 67]) (fun h2 v3 =>
  some (h2, some (.int v3)))) := by rfl
-- WhirlShaftsModel.isFenced(II)Z with (67, None, None)
set_option maxRecDepth 20000 in
theorem b155_0 (X : q_X) (O : q_O) (n : Nat) (h : q_S) (x1 : Int32) (x2 : Int32) : q_go e_155 X O (n + 1) 0 [(0, .ref 67), (1, .int x1), (2, .int x2)] [] h =
  q_c1 (O 121 h [.ref 67, .int x1]) (fun h1 v2 =>
  if v2 = 0 then
    some (h1, some (.int 0))
  else
    q_c1 (O 123 h1 [.int x2]) (fun h3 v4 =>
    if v4 = 0 then
      some (h3, some (.int 0))
    else
      some (h3, some (.int 1)))) := by rfl
-- WhirlShaftsModel.fence(II)I with (67, None, None)
set_option maxRecDepth 20000 in
theorem b156_0 (X : q_X) (O : q_O) (n : Nat) (h : q_S) (x1 : Int32) (x2 : Int32) : q_go e_156 X O (n + 1) 0 [(0, .ref 67), (1, .int x1), (2, .int x2)] [] h =
  q_c1 (O 155 h [.ref 67, .int x1, .int x2]) (fun h1 v2 =>
  if v2 = 0 then
    some (h1, some (.int (-1)))
  else
    q_c1 (O 133 h1 [.ref 67, .int x1, .int x2]) (fun h3 v4 =>
    some (h3, some (.int v4)))) := by rfl
-- WhirlShaftsModel.held(III)I with (67, None, None, None)
set_option maxRecDepth 20000 in
theorem b157_0 (X : q_X) (O : q_O) (n : Nat) (h : q_S) (x1 : Int32) (x2 : Int32) (x3 : Int32) : q_go e_157 X O (n + 1) 0 [(0, .ref 67), (1, .int x1), (2, .int x2), (3, .int x3)] [] h =
  q_c1 (O 121 h [.ref 67, .int x1]) (fun h1 v2 =>
  if v2 = 0 then
    some (h1, some (.int (-1)))
  else
    q_c1 (O 124 h1 [.int x2, .int x3]) (fun h3 v4 =>
    if v4 = 0 then
      some (h3, some (.int (-1)))
    else
      q_c0 (O 126 h3 [.ref 67]) (fun h5 =>
      q_c1 (O 130 h5 [.ref 67, .int 0, .int (x1 - 1), .int x2, .int x3]) (fun h6 v7 =>
      q_c1 (O 130 h6 [.ref 67, .int (x1 + 1), .int ((h6.1 67 0) - 1), .int x2, .int x3]) (fun h8 v9 =>
      some (h8, some (.int (v7 + v9)))))))) := by rfl
-- WhirlShaftsModel.isBand(III)Z with (None, None, None)
set_option maxRecDepth 20000 in
theorem b158_0 (X : q_X) (O : q_O) (n : Nat) (h : q_S) (x0 : Int32) (x1 : Int32) (x2 : Int32) : q_go e_158 X O (n + 1) 0 [(0, .int x0), (1, .int x1), (2, .int x2)] [] h =
  q_c1 (O 124 h [.int x0, .int x2]) (fun h1 v2 =>
  if v2 = 0 then
    some (h1, some (.int 0))
  else
    q_c1 (O 124 h1 [.int x1, .int x2]) (fun h3 v4 =>
    if v4 = 0 then
      some (h3, some (.int 0))
    else
      if x1 < x0 then
        some (h3, some (.int 0))
      else
        some (h3, some (.int 1)))) := by rfl
-- WhirlShaftsModel.bandOf(III)I with (67, None, None, None)
set_option maxRecDepth 20000 in
theorem b159_0 (X : q_X) (O : q_O) (n : Nat) (h : q_S) (x1 : Int32) (x2 : Int32) (x3 : Int32) : q_go e_159 X O (n + 1) 0 [(0, .ref 67), (1, .int x1), (2, .int x2), (3, .int x3)] [] h =
  q_c0 (O 126 h [.ref 67]) (fun h1 =>
  q_c1 (O 131 h1 [.ref 67, .int x2, .int x3]) (fun h2 v3 =>
  q_c1 (O 131 h2 [.ref 67, .int x1, .int x3]) (fun h4 v5 =>
  some (h4, some (.int (v3 - v5)))))) := by rfl
-- WhirlShaftsModel.band(III)I with (67, None, None, None)
set_option maxRecDepth 20000 in
theorem b160_0 (X : q_X) (O : q_O) (n : Nat) (h : q_S) (x1 : Int32) (x2 : Int32) (x3 : Int32) : q_go e_160 X O (n + 1) 0 [(0, .ref 67), (1, .int x1), (2, .int x2), (3, .int x3)] [] h =
  q_c1 (O 158 h [.int x1, .int x2, .int x3]) (fun h1 v2 =>
  if v2 = 0 then
    some (h1, some (.int (-1)))
  else
    q_c1 (O 159 h1 [.ref 67, .int x1, .int x2, .int x3]) (fun h3 v4 =>
    some (h3, some (.int v4)))) := by rfl
-- WhirlShaftsModel.gap(II)I with (67, None, None)
set_option maxRecDepth 20000 in
theorem b161_0 (X : q_X) (O : q_O) (n : Nat) (h : q_S) (x1 : Int32) (x2 : Int32) : q_go e_161 X O (n + 1) 0 [(0, .ref 67), (1, .int x1), (2, .int x2)] [] h =
  q_c1 (O 123 h [.int x1]) (fun h1 v2 =>
  if v2 = 0 then
    some (h1, some (.int (-1)))
  else
    q_c1 (O 120 h1 [.int x2, .int 0, .int 1]) (fun h3 v4 =>
    if v4 = 0 then
      some (h3, some (.int (-1)))
    else
      q_go e_161 X O n 28 [(0, .ref 67), (1, .int x1), (2, .int x2), (3, .int (-2)), (4, .int (-2)), (5, .int 0)] [] h3)) := by rfl
set_option maxRecDepth 20000 in
theorem b161_28 (X : q_X) (O : q_O) (n : Nat) (h : q_S) (x1 : Int32) (x2 : Int32) (x3 : Int32) (x4 : Int32) (x5 : Int32) : q_go e_161 X O (n + 1) 28 [(0, .ref 67), (1, .int x1), (2, .int x2), (3, .int x3), (4, .int x4), (5, .int x5)] [] h =
  if x5 < ((h.1 67 0) - 1) then
    q_c1 (O 133 h [.ref 67, .int (x5 + 1), .int x1]) (fun h1 v2 =>
    q_c1 (O 133 h1 [.ref 67, .int x5, .int x1]) (fun h3 v4 =>
    if x3 < 0 then
      q_go e_161 X O n 28 [(0, .ref 67), (1, .int x1), (2, .int x2), (3, .int x5), (4, .int (v2 - v4)), (5, .int (x5 + 1))] [] h3
    else
      if x4 < (v2 - v4) then
        q_go e_161 X O n 28 [(0, .ref 67), (1, .int x1), (2, .int x2), (3, .int x5), (4, .int (v2 - v4)), (5, .int (x5 + 1))] [] h3
      else
        q_go e_161 X O n 28 [(0, .ref 67), (1, .int x1), (2, .int x2), (3, .int x3), (4, .int x4), (5, .int (x5 + 1))] [] h3))
  else
    if x2 = 0 then
      some (h, some (.int x3))
    else
      some (h, some (.int x4)) := by rfl
-- WhirlShaftsModel.trim(IIIII)I with (67, None, None, None, None, None)
set_option maxRecDepth 20000 in
theorem b162_0 (X : q_X) (O : q_O) (n : Nat) (h : q_S) (x1 : Int32) (x2 : Int32) (x3 : Int32) (x4 : Int32) (x5 : Int32) : q_go e_162 X O (n + 1) 0 [(0, .ref 67), (1, .int x1), (2, .int x2), (3, .int x3), (4, .int x4), (5, .int x5)] [] h =
  q_c1 (O 121 h [.ref 67, .int x1]) (fun h1 v2 =>
  if v2 = 0 then
    some (h1, some (.int (-1)))
  else
    q_c1 (O 121 h1 [.ref 67, .int x2]) (fun h3 v4 =>
    if v4 = 0 then
      some (h3, some (.int (-1)))
    else
      q_c1 (O 124 h3 [.int x3, .int x4]) (fun h5 v6 =>
      if v6 = 0 then
        some (h5, some (.int (-1)))
      else
        q_c1 (O 120 h5 [.int x5, .int 0, .int 1]) (fun h7 v8 =>
        if v8 = 0 then
          some (h7, some (.int (-1)))
        else
          q_ix x1 8 (fun j9 =>
          q_go e_162 X O n 54 [(0, .ref 67), (1, .int x1), (2, .int x2), (3, .int x3), (4, .int x4), (5, .int x5), (6, .int (h7.1 69 j9)), (7, .int 0), (8, .int 0), (9, .int 1)] [] h7))))) := by rfl
set_option maxRecDepth 20000 in
theorem b162_54 (X : q_X) (O : q_O) (n : Nat) (h : q_S) (x1 : Int32) (x2 : Int32) (x3 : Int32) (x4 : Int32) (x5 : Int32) (x6 : Int32) (x7 : Int32) (x8 : Int32) (x9 : Int32) : q_go e_162 X O (n + 1) 54 [(0, .ref 67), (1, .int x1), (2, .int x2), (3, .int x3), (4, .int x4), (5, .int x5), (6, .int x6), (7, .int x7), (8, .int x8), (9, .int x9)] [] h =
  if 99 < x9 then
    q_ix x1 8 (fun j1 =>
    if x5 = 0 then
      some ((q_si h 69 j1 x6), some (.int x7))
    else
      some ((q_si h 69 j1 x6), some (.int x8)))
  else
    q_ix x1 8 (fun j2 =>
    q_c1 (O 133 (q_si h 69 j2 x9) [.ref 67, .int x2, .int x4]) (fun h3 v4 =>
    if (v4 - x3) < 0 then
      q_go e_162 X O n 93 [(0, .ref 67), (1, .int x1), (2, .int x2), (3, .int x3), (4, .int x4), (5, .int x5), (6, .int x6), (7, .int x7), (8, .int x8), (9, .int x9)] [.int (-(v4 - x3))] h3
    else
      q_go e_162 X O n 93 [(0, .ref 67), (1, .int x1), (2, .int x2), (3, .int x3), (4, .int x4), (5, .int x5), (6, .int x6), (7, .int x7), (8, .int x8), (9, .int x9)] [.int (v4 - x3)] h3)) := by rfl
set_option maxRecDepth 20000 in
theorem b162_93 (X : q_X) (O : q_O) (n : Nat) (h : q_S) (x1 : Int32) (x2 : Int32) (x3 : Int32) (x4 : Int32) (x5 : Int32) (x6 : Int32) (x7 : Int32) (x8 : Int32) (x9 : Int32) (s0 : Int32) : q_go e_162 X O (n + 1) 93 [(0, .ref 67), (1, .int x1), (2, .int x2), (3, .int x3), (4, .int x4), (5, .int x5), (6, .int x6), (7, .int x7), (8, .int x8), (9, .int x9)] [.int s0] h =
  if 0 < x7 then
    if s0 < x8 then
      q_go e_162 X O n 54 [(0, .ref 67), (1, .int x1), (2, .int x2), (3, .int x3), (4, .int x4), (5, .int x5), (6, .int x6), (7, .int x9), (8, .int s0), (9, .int (x9 + 1))] [] h
    else
      q_go e_162 X O n 54 [(0, .ref 67), (1, .int x1), (2, .int x2), (3, .int x3), (4, .int x4), (5, .int x5), (6, .int x6), (7, .int x7), (8, .int x8), (9, .int (x9 + 1))] [] h
  else
    q_go e_162 X O n 54 [(0, .ref 67), (1, .int x1), (2, .int x2), (3, .int x3), (4, .int x4), (5, .int x5), (6, .int x6), (7, .int x9), (8, .int s0), (9, .int (x9 + 1))] [] h := by rfl
-- WhirlShaftsModel.tune(IIII)I with (67, None, None, None, None)
set_option maxRecDepth 20000 in
theorem b163_0 (X : q_X) (O : q_O) (n : Nat) (h : q_S) (x1 : Int32) (x2 : Int32) (x3 : Int32) (x4 : Int32) : q_go e_163 X O (n + 1) 0 [(0, .ref 67), (1, .int x1), (2, .int x2), (3, .int x3), (4, .int x4)] [] h =
  q_c1 (O 122 h [.ref 67, .int x1]) (fun h1 v2 =>
  if v2 = 0 then
    some (h1, some (.int (-1)))
  else
    q_c1 (O 158 h1 [.int x2, .int x3, .int x4]) (fun h3 v4 =>
    if v4 = 0 then
      some (h3, some (.int (-1)))
    else
      q_ix x1 8 (fun j5 =>
      q_go e_163 X O n 34 [(0, .ref 67), (1, .int x1), (2, .int x2), (3, .int x3), (4, .int x4), (5, .int (h3.1 71 j5)), (6, .int 1), (7, .int 0)] [] h3))) := by rfl
set_option maxRecDepth 20000 in
theorem b163_34 (X : q_X) (O : q_O) (n : Nat) (h : q_S) (x1 : Int32) (x2 : Int32) (x3 : Int32) (x4 : Int32) (x5 : Int32) (x6 : Int32) (x7 : Int32) : q_go e_163 X O (n + 1) 34 [(0, .ref 67), (1, .int x1), (2, .int x2), (3, .int x3), (4, .int x4), (5, .int x5), (6, .int x6), (7, .int x7)] [] h =
  if x7 = 0 then
    if 99 < x6 then
      q_go e_163 X O n 78 [(0, .ref 67), (1, .int x1), (5, .int x5), (6, .int x6), (7, .int x7)] [] h
    else
      q_ix x1 8 (fun j1 =>
      q_c1 (O 159 (q_si h 71 j1 x6) [.ref 67, .int x2, .int x3, .int x4]) (fun h2 v3 =>
      if v3 = 0 then
        q_go e_163 X O n 34 [(0, .ref 67), (1, .int x1), (2, .int x2), (3, .int x3), (4, .int x4), (5, .int x5), (6, .int (x6 + 1)), (7, .int 1)] [] h2
      else
        q_go e_163 X O n 34 [(0, .ref 67), (1, .int x1), (2, .int x2), (3, .int x3), (4, .int x4), (5, .int x5), (6, .int (x6 + 1)), (7, .int 0)] [] h2))
  else
    q_go e_163 X O n 78 [(0, .ref 67), (1, .int x1), (5, .int x5), (6, .int x6), (7, .int x7)] [] h := by rfl
set_option maxRecDepth 20000 in
theorem b163_78 (X : q_X) (O : q_O) (n : Nat) (h : q_S) (x1 : Int32) (x5 : Int32) (x6 : Int32) (x7 : Int32) : q_go e_163 X O (n + 1) 78 [(0, .ref 67), (1, .int x1), (5, .int x5), (6, .int x6), (7, .int x7)] [] h =
  q_ix x1 8 (fun j1 =>
  if x7 = 0 then
    some ((q_si h 71 j1 x5), some (.int (-2)))
  else
    some ((q_si h 71 j1 x5), some (.int (x6 - 1)))) := by rfl
-- WhirlShaftsModel.heavier(III)I with (67, None, None, None)
set_option maxRecDepth 20000 in
theorem b164_0 (X : q_X) (O : q_O) (n : Nat) (h : q_S) (x1 : Int32) (x2 : Int32) (x3 : Int32) : q_go e_164 X O (n + 1) 0 [(0, .ref 67), (1, .int x1), (2, .int x2), (3, .int x3)] [] h =
  q_c1 (O 155 h [.ref 67, .int x1, .int x2]) (fun h1 v2 =>
  if v2 = 0 then
    some (h1, some (.int (-1)))
  else
    q_c1 (O 120 h1 [.int x3, .int 0, .int 1]) (fun h3 v4 =>
    if v4 = 0 then
      some (h3, some (.int (-1)))
    else
      q_go e_164 X O n 31 [(0, .ref 67), (1, .int x1), (2, .int x2), (3, .int x3), (4, .int (-2)), (5, .int (-2)), (6, .int 0)] [] h3)) := by rfl
set_option maxRecDepth 20000 in
theorem b164_31 (X : q_X) (O : q_O) (n : Nat) (h : q_S) (x1 : Int32) (x2 : Int32) (x3 : Int32) (x4 : Int32) (x5 : Int32) (x6 : Int32) : q_go e_164 X O (n + 1) 31 [(0, .ref 67), (1, .int x1), (2, .int x2), (3, .int x3), (4, .int x4), (5, .int x5), (6, .int x6)] [] h =
  if x6 < (h.1 67 0) then
    q_ix x6 8 (fun j1 =>
    if (h.1 69 j1) = 99 then
      q_go e_164 X O n 31 [(0, .ref 67), (1, .int x1), (2, .int x2), (3, .int x3), (4, .int x4), (5, .int x5), (6, .int (x6 + 1))] [] h
    else
      q_ix x6 8 (fun j2 =>
      q_ix x6 8 (fun j3 =>
      q_c1 (O 133 (q_si h 69 j3 ((h.1 69 j2) + 1)) [.ref 67, .int x1, .int x2]) (fun h4 v5 =>
      q_ix x6 8 (fun j6 =>
      q_ix x6 8 (fun j7 =>
      if x4 < 0 then
        q_go e_164 X O n 31 [(0, .ref 67), (1, .int x1), (2, .int x2), (3, .int x3), (4, .int x6), (5, .int v5), (6, .int (x6 + 1))] [] (q_si h4 69 j7 ((h4.1 69 j6) - 1))
      else
        if v5 < x5 then
          q_go e_164 X O n 31 [(0, .ref 67), (1, .int x1), (2, .int x2), (3, .int x3), (4, .int x6), (5, .int v5), (6, .int (x6 + 1))] [] (q_si h4 69 j7 ((h4.1 69 j6) - 1))
        else
          q_go e_164 X O n 31 [(0, .ref 67), (1, .int x1), (2, .int x2), (3, .int x3), (4, .int x4), (5, .int x5), (6, .int (x6 + 1))] [] (q_si h4 69 j7 ((h4.1 69 j6) - 1))))))))
  else
    if x3 = 0 then
      some (h, some (.int x4))
    else
      some (h, some (.int x5)) := by rfl
-- WhirlShaftsModel.swaps(I)V with (67, None)
set_option maxRecDepth 20000 in
theorem b165_0 (X : q_X) (O : q_O) (n : Nat) (h : q_S) (x1 : Int32) : q_go e_165 X O (n + 1) 0 [(0, .ref 67), (1, .int x1)] [] h =
  q_ix x1 8 (fun j1 =>
  q_ix x1 8 (fun j2 =>
  q_ix (x1 + 1) 8 (fun j3 =>
  q_ix x1 8 (fun j4 =>
  q_ix (x1 + 1) 8 (fun j5 =>
  q_ix x1 8 (fun j6 =>
  q_ix (x1 + 1) 8 (fun j7 =>
  q_ix (x1 + 1) 8 (fun j8 =>
  some ((q_si (q_si (q_si (q_si h 68 j4 (h.1 68 j3)) 69 j6 (h.1 69 j5)) 68 j7 (h.1 68 j1)) 69 j8 (h.1 69 j2)), none))))))))) := by rfl
-- WhirlShaftsModel.change(II)I with (67, None, None)
set_option maxRecDepth 20000 in
theorem b166_0 (X : q_X) (O : q_O) (n : Nat) (h : q_S) (x1 : Int32) (x2 : Int32) : q_go e_166 X O (n + 1) 0 [(0, .ref 67), (1, .int x1), (2, .int x2)] [] h =
  q_c1 (O 155 h [.ref 67, .int x1, .int x2]) (fun h1 v2 =>
  if v2 = 0 then
    some (h1, some (.int (-1)))
  else
    q_c1 (O 133 h1 [.ref 67, .int x1, .int x2]) (fun h3 v4 =>
    q_go e_166 X O n 25 [(0, .ref 67), (1, .int x1), (2, .int x2), (3, .int (-2)), (4, .int v4), (5, .int 0)] [] h3)) := by rfl
set_option maxRecDepth 20000 in
theorem b166_25 (X : q_X) (O : q_O) (n : Nat) (h : q_S) (x1 : Int32) (x2 : Int32) (x3 : Int32) (x4 : Int32) (x5 : Int32) : q_go e_166 X O (n + 1) 25 [(0, .ref 67), (1, .int x1), (2, .int x2), (3, .int x3), (4, .int x4), (5, .int x5)] [] h =
  if x5 < ((h.1 67 0) - 1) then
    q_c0 (O 165 h [.ref 67, .int x5]) (fun h1 =>
    q_c1 (O 133 h1 [.ref 67, .int x1, .int x2]) (fun h2 v3 =>
    q_c0 (O 165 h2 [.ref 67, .int x5]) (fun h4 =>
    if x4 < v3 then
      q_go e_166 X O n 25 [(0, .ref 67), (1, .int x1), (2, .int x2), (3, .int x5), (4, .int v3), (5, .int (x5 + 1))] [] h4
    else
      q_go e_166 X O n 25 [(0, .ref 67), (1, .int x1), (2, .int x2), (3, .int x3), (4, .int x4), (5, .int (x5 + 1))] [] h4)))
  else
    some (h, some (.int x3)) := by rfl
-- WhirlShaftsModel.critical(I)I with (67, None)
set_option maxRecDepth 20000 in
theorem b167_0 (X : q_X) (O : q_O) (n : Nat) (h : q_S) (x1 : Int32) : q_go e_167 X O (n + 1) 0 [(0, .ref 67), (1, .int x1)] [] h =
  q_c1 (O 121 h [.ref 67, .int x1]) (fun h1 v2 =>
  if v2 = 0 then
    some (h1, some (.int (-1)))
  else
    q_go e_167 X O n 21 [(0, .ref 67), (1, .int x1), (2, .int (h1.1 67 1)), (3, .int (-2)), (4, .int 1)] [] h1) := by rfl
set_option maxRecDepth 20000 in
theorem b167_21 (X : q_X) (O : q_O) (n : Nat) (h : q_S) (x1 : Int32) (x2 : Int32) (x3 : Int32) (x4 : Int32) : q_go e_167 X O (n + 1) 21 [(0, .ref 67), (1, .int x1), (2, .int x2), (3, .int x3), (4, .int x4)] [] h =
  if 9 < x4 then
    some ((q_si h 67 1 x2), some (.int x3))
  else
    if x3 < 0 then
      q_c1 (O 133 (q_si h 67 1 x4) [.ref 67, .int x1, .int 1]) (fun h1 v2 =>
      if (x4 * x4) < v2 then
        q_go e_167 X O n 21 [(0, .ref 67), (1, .int x1), (2, .int x2), (3, .int x3), (4, .int (x4 + 1))] [] h1
      else
        q_go e_167 X O n 21 [(0, .ref 67), (1, .int x1), (2, .int x2), (3, .int x4), (4, .int (x4 + 1))] [] h1)
    else
      some ((q_si h 67 1 x2), some (.int x3)) := by rfl
-- WhirlShaftsModel.isRow(I)Z with (None,)
set_option maxRecDepth 20000 in
theorem b168_0 (X : q_X) (O : q_O) (n : Nat) (h : q_S) (x0 : Int32) : q_go e_168 X O (n + 1) 0 [(0, .int x0)] [] h =
  q_c1 (O 120 h [.int x0, .int 0, .int 2]) (fun h1 v2 =>
  if v2 = 0 ∨ v2 = 1 then some (h1, some (.int v2)) else none) := by rfl
-- WhirlShaftsModel.narrow(IJ)J with (None, None)
set_option maxRecDepth 20000 in
theorem b169_0 (X : q_X) (O : q_O) (n : Nat) (h : q_S) (x0 : Int32) (x1 : Int64) : q_go e_169 X O (n + 1) 0 [(0, .int x0), (1, .long x1)] [] h =
  if x0 = 0 then
    some (h, some (.long (((((((x1 : Int64)).toInt32 : Int32)).toInt8.toInt32 : Int32)).toInt64)))
  else
    if x0 = 1 then
      some (h, some (.long (((((x1 : Int64)).toInt32 : Int32)).toInt64)))
    else
      some (h, some (.long x1)) := by rfl
-- WhirlShaftsModel.row(III)I with (67, None, None, None)
set_option maxRecDepth 20000 in
theorem b170_0 (X : q_X) (O : q_O) (n : Nat) (h : q_S) (x1 : Int32) (x2 : Int32) (x3 : Int32) : q_go e_170 X O (n + 1) 0 [(0, .ref 67), (1, .int x1), (2, .int x2), (3, .int x3)] [] h =
  q_c1 (O 168 h [.int x1]) (fun h1 v2 =>
  if v2 = 0 then
    some (h1, some (.int (-1)))
  else
    q_c1 (O 120 h1 [.int x2, .int (-1), .int 2]) (fun h3 v4 =>
    if v4 = 0 then
      some (h3, some (.int (-1)))
    else
      if x2 < 0 then
        if x2 < 0 then
          q_go e_170 X O n 39 [(0, .ref 67), (1, .int x1), (2, .int x2), (3, .int x3)] [] h3
        else
          if x3 < 0 then
            some (h3, some (.int (-14)))
          else
            q_go e_170 X O n 39 [(0, .ref 67), (1, .int x1), (2, .int x2), (3, .int x3)] [] h3
      else
        if 40 < x3 then
          some (h3, some (.int (-1)))
        else
          if x2 < 0 then
            q_go e_170 X O n 39 [(0, .ref 67), (1, .int x1), (2, .int x2), (3, .int x3)] [] h3
          else
            if x3 < 0 then
              some (h3, some (.int (-14)))
            else
              q_go e_170 X O n 39 [(0, .ref 67), (1, .int x1), (2, .int x2), (3, .int x3)] [] h3)) := by rfl
set_option maxRecDepth 20000 in
theorem b170_39 (X : q_X) (O : q_O) (n : Nat) (h : q_S) (x1 : Int32) (x2 : Int32) (x3 : Int32) : q_go e_170 X O (n + 1) 39 [(0, .ref 67), (1, .int x1), (2, .int x2), (3, .int x3)] [] h =
  q_ix x1 3 (fun j1 =>
  if x2 < 0 then
    q_ix x1 3 (fun j2 =>
    q_go e_170 X O n 64 [(0, .ref 67), (1, .int x1), (4, .int 0)] [] (q_si (q_si h 85 j1 x2) 86 j2 0))
  else
    q_ix x1 3 (fun j3 =>
    q_go e_170 X O n 64 [(0, .ref 67), (1, .int x1), (4, .int 0)] [] (q_si (q_si h 85 j1 x2) 86 j3 x3))) := by rfl
set_option maxRecDepth 20000 in
theorem b170_64 (X : q_X) (O : q_O) (n : Nat) (h : q_S) (x1 : Int32) (x4 : Int32) : q_go e_170 X O (n + 1) 64 [(0, .ref 67), (1, .int x1), (4, .int x4)] [] h =
  if x4 < 40 then
    q_ix ((40 * x1) + x4) 120 (fun j1 =>
    q_go e_170 X O n 64 [(0, .ref 67), (1, .int x1), (4, .int (x4 + 1))] [] (q_sl h 87 j1 (Int64.ofNat 0)))
  else
    some (h, some (.int 1)) := by rfl
-- WhirlShaftsModel.put(IIJ)I with (67, None, None, None)
set_option maxRecDepth 20000 in
theorem b171_0 (X : q_X) (O : q_O) (n : Nat) (h : q_S) (x1 : Int32) (x2 : Int32) (x3 : Int64) : q_go e_171 X O (n + 1) 0 [(0, .ref 67), (1, .int x1), (2, .int x2), (3, .long x3)] [] h =
  q_c1 (O 168 h [.int x1]) (fun h1 v2 =>
  if v2 = 0 then
    some (h1, some (.int (-1)))
  else
    q_ix x1 3 (fun j3 =>
    if (h1.1 85 j3) < 0 then
      some (h1, some (.int (-11)))
    else
      q_ix x1 3 (fun j4 =>
      q_c1 (O 120 h1 [.int x2, .int 0, .int ((h1.1 86 j4) - 1)]) (fun h5 v6 =>
      if v6 = 0 then
        some (h5, some (.int (-13)))
      else
        q_ix x1 3 (fun j7 =>
        q_c3 (O 169 h5 [.int (h5.1 85 j7), .long x3]) (fun h8 v9 =>
        q_ix ((40 * x1) + x2) 120 (fun j10 =>
        some ((q_sl h8 87 j10 v9), some (.int 1))))))))) := by rfl
-- WhirlShaftsModel.get(II)J with (67, None, None)
set_option maxRecDepth 20000 in
theorem b172_0 (X : q_X) (O : q_O) (n : Nat) (h : q_S) (x1 : Int32) (x2 : Int32) : q_go e_172 X O (n + 1) 0 [(0, .ref 67), (1, .int x1), (2, .int x2)] [] h =
  q_c1 (O 168 h [.int x1]) (fun h1 v2 =>
  if v2 = 0 then
    some (h1, some (.long (Int64.ofNat 9223372036854775808)))
  else
    q_ix x1 3 (fun j3 =>
    if (h1.1 85 j3) < 0 then
      some (h1, some (.long (Int64.ofNat 9223372036854775808)))
    else
      q_ix x1 3 (fun j4 =>
      q_c1 (O 120 h1 [.int x2, .int 0, .int ((h1.1 86 j4) - 1)]) (fun h5 v6 =>
      if v6 = 0 then
        some (h5, some (.long (Int64.ofNat 9223372036854775808)))
      else
        q_ix ((40 * x1) + x2) 120 (fun j7 =>
        some (h5, some (.long (h5.2.1 87 j7)))))))) := by rfl
-- WhirlShaftsModel.film(III)I with (67, None, None, None)
set_option maxRecDepth 20000 in
theorem b173_0 (X : q_X) (O : q_O) (n : Nat) (h : q_S) (x1 : Int32) (x2 : Int32) (x3 : Int32) : q_go e_173 X O (n + 1) 0 [(0, .ref 67), (1, .int x1), (2, .int x2), (3, .int x3)] [] h =
  q_c1 (O 168 h [.int x1]) (fun h1 v2 =>
  if v2 = 0 then
    some (h1, some (.int (-1)))
  else
    q_c1 (O 120 h1 [.int x2, .int 0, .int 2]) (fun h3 v4 =>
    if v4 = 0 then
      some (h3, some (.int (-1)))
    else
      q_c1 (O 123 h3 [.int x3]) (fun h5 v6 =>
      if v6 = 0 then
        some (h5, some (.int (-1)))
      else
        q_ix x1 3 (fun j7 =>
        q_ix x1 3 (fun j8 =>
        q_go e_173 X O n 45 [(0, .ref 67), (1, .int x1), (2, .int x2), (3, .int x3), (4, .int 0)] [] (q_si (q_si h5 85 j7 x2) 86 j8 (h5.1 67 0))))))) := by rfl
set_option maxRecDepth 20000 in
theorem b173_45 (X : q_X) (O : q_O) (n : Nat) (h : q_S) (x1 : Int32) (x2 : Int32) (x3 : Int32) (x4 : Int32) : q_go e_173 X O (n + 1) 45 [(0, .ref 67), (1, .int x1), (2, .int x2), (3, .int x3), (4, .int x4)] [] h =
  if x4 < 40 then
    if x4 < (h.1 67 0) then
      q_c1 (O 133 h [.ref 67, .int x4, .int x3]) (fun h1 v2 =>
      q_c3 (O 169 h1 [.int x2, .long (((v2 : Int32)).toInt64)]) (fun h3 v4 =>
      q_ix ((40 * x1) + x4) 120 (fun j5 =>
      q_go e_173 X O n 45 [(0, .ref 67), (1, .int x1), (2, .int x2), (3, .int x3), (4, .int (x4 + 1))] [] (q_sl h3 87 j5 v4))))
    else
      q_ix ((40 * x1) + x4) 120 (fun j6 =>
      q_go e_173 X O n 45 [(0, .ref 67), (1, .int x1), (2, .int x2), (3, .int x3), (4, .int (x4 + 1))] [] (q_sl h 87 j6 (Int64.ofNat 0)))
  else
    some (h, some (.int (h.1 67 0))) := by rfl
-- WhirlShaftsModel.copy(IIIII)I with (67, None, None, None, None, None)
set_option maxRecDepth 20000 in
theorem b174_0 (X : q_X) (O : q_O) (n : Nat) (h : q_S) (x1 : Int32) (x2 : Int32) (x3 : Int32) (x4 : Int32) (x5 : Int32) : q_go e_174 X O (n + 1) 0 [(0, .ref 67), (1, .int x1), (2, .int x2), (3, .int x3), (4, .int x4), (5, .int x5)] [] h =
  q_c1 (O 168 h [.int x1]) (fun h1 v2 =>
  if v2 = 0 then
    some (h1, some (.int (-1)))
  else
    q_c1 (O 168 h1 [.int x3]) (fun h3 v4 =>
    if v4 = 0 then
      some (h3, some (.int (-1)))
    else
      q_ix x1 3 (fun j5 =>
      if (h3.1 85 j5) < 0 then
        some (h3, some (.int (-11)))
      else
        q_ix x3 3 (fun j6 =>
        if (h3.1 85 j6) < 0 then
          some (h3, some (.int (-11)))
        else
          q_ix x1 3 (fun j7 =>
          q_ix x3 3 (fun j8 =>
          if (h3.1 85 j7) = (h3.1 85 j8) then
            if x5 < 0 then
              some (h3, some (.int (-13)))
            else
              if x2 < 0 then
                some (h3, some (.int (-13)))
              else
                if x4 < 0 then
                  some (h3, some (.int (-13)))
                else
                  q_ix x1 3 (fun j9 =>
                  if 0 < (lg_cmp (((x2 : Int32)).toInt64 + ((x5 : Int32)).toInt64) ((((h3.1 86 j9) : Int32)).toInt64)) then
                    some (h3, some (.int (-13)))
                  else
                    q_ix x3 3 (fun j10 =>
                    if 0 < (lg_cmp (((x4 : Int32)).toInt64 + ((x5 : Int32)).toInt64) ((((h3.1 86 j10) : Int32)).toInt64)) then
                      some (h3, some (.int (-13)))
                    else
                      q_go e_174 X O n 110 [(0, .ref 67), (1, .int x1), (2, .int x2), (3, .int x3), (4, .int x4), (5, .int x5), (6, .int 0)] [] h3))
          else
            some (h3, some (.int (-12))))))))) := by rfl
set_option maxRecDepth 20000 in
theorem b174_110 (X : q_X) (O : q_O) (n : Nat) (h : q_S) (x1 : Int32) (x2 : Int32) (x3 : Int32) (x4 : Int32) (x5 : Int32) (x6 : Int32) : q_go e_174 X O (n + 1) 110 [(0, .ref 67), (1, .int x1), (2, .int x2), (3, .int x3), (4, .int x4), (5, .int x5), (6, .int x6)] [] h =
  if x6 < x5 then
    q_ix (((40 * x1) + x2) + x6) 120 (fun j1 =>
    q_ix x6 40 (fun j2 =>
    q_go e_174 X O n 110 [(0, .ref 67), (1, .int x1), (2, .int x2), (3, .int x3), (4, .int x4), (5, .int x5), (6, .int (x6 + 1))] [] (q_sl h 88 j2 (h.2.1 87 j1))))
  else
    q_go e_174 X O n 147 [(0, .ref 67), (3, .int x3), (4, .int x4), (5, .int x5), (6, .int 0)] [] h := by rfl
set_option maxRecDepth 20000 in
theorem b174_147 (X : q_X) (O : q_O) (n : Nat) (h : q_S) (x3 : Int32) (x4 : Int32) (x5 : Int32) (x6 : Int32) : q_go e_174 X O (n + 1) 147 [(0, .ref 67), (3, .int x3), (4, .int x4), (5, .int x5), (6, .int x6)] [] h =
  if x6 < x5 then
    q_ix x6 40 (fun j1 =>
    q_ix (((40 * x3) + x4) + x6) 120 (fun j2 =>
    q_go e_174 X O n 147 [(0, .ref 67), (3, .int x3), (4, .int x4), (5, .int x5), (6, .int (x6 + 1))] [] (q_sl h 87 j2 (h.2.1 88 j1))))
  else
    some (h, some (.int x5)) := by rfl
-- WhirlShaftsModel.isSo(III)Z with (67, None, None, None)
set_option maxRecDepth 20000 in
theorem b175_0 (X : q_X) (O : q_O) (n : Nat) (h : q_S) (x1 : Int32) (x2 : Int32) (x3 : Int32) : q_go e_175 X O (n + 1) 0 [(0, .ref 67), (1, .int x1), (2, .int x2), (3, .int x3)] [] h =
  q_go e_175 X O n 3 [(0, .ref 67), (1, .int x1), (2, .int x2), (3, .int x3), (4, .int 0)] [] h := by rfl
set_option maxRecDepth 20000 in
theorem b175_3 (X : q_X) (O : q_O) (n : Nat) (h : q_S) (x1 : Int32) (x2 : Int32) (x3 : Int32) (x4 : Int32) : q_go e_175 X O (n + 1) 3 [(0, .ref 67), (1, .int x1), (2, .int x2), (3, .int x3), (4, .int x4)] [] h =
  if x4 < x2 then
    q_c1 (O 133 h [.ref 67, .int x4, .int x3]) (fun h1 v2 =>
    q_ix ((40 * x1) + x4) 120 (fun j3 =>
    if (lg_cmp (((v2 : Int32)).toInt64) (h1.2.1 87 j3)) = 0 then
      q_go e_175 X O n 3 [(0, .ref 67), (1, .int x1), (2, .int x2), (3, .int x3), (4, .int (x4 + 1))] [] h1
    else
      if x4 = x2 then
        some (h1, some (.int 1))
      else
        some (h1, some (.int 0))))
  else
    if x4 = x2 then
      some (h, some (.int 1))
    else
      some (h, some (.int 0)) := by rfl
-- WhirlShaftsModel.fits(IIIII)I with (67, None, None, None, None, None)
set_option maxRecDepth 20000 in
theorem b176_0 (X : q_X) (O : q_O) (n : Nat) (h : q_S) (x1 : Int32) (x2 : Int32) (x3 : Int32) (x4 : Int32) (x5 : Int32) : q_go e_176 X O (n + 1) 0 [(0, .ref 67), (1, .int x1), (2, .int x2), (3, .int x3), (4, .int x4), (5, .int x5)] [] h =
  q_c1 (O 168 h [.int x1]) (fun h1 v2 =>
  if v2 = 0 then
    some (h1, some (.int (-1)))
  else
    q_c1 (O 120 h1 [.int x2, .int 0, .int (h1.1 67 0)]) (fun h3 v4 =>
    if v4 = 0 then
      some (h3, some (.int (-1)))
    else
      q_c1 (O 123 h3 [.int x3]) (fun h5 v6 =>
      if v6 = 0 then
        some (h5, some (.int (-1)))
      else
        q_c1 (O 121 h5 [.ref 67, .int x4]) (fun h7 v8 =>
        if v8 = 0 then
          some (h7, some (.int (-1)))
        else
          q_c1 (O 120 h7 [.int x5, .int 0, .int 2]) (fun h9 v10 =>
          if v10 = 0 then
            some (h9, some (.int (-1)))
          else
            q_ix x1 3 (fun j11 =>
            if (h9.1 85 j11) < 0 then
              some (h9, some (.int (-11)))
            else
              q_ix x1 3 (fun j12 =>
              if (h9.1 86 j12) < x2 then
                some (h9, some (.int (-13)))
              else
                if x5 = 2 then
                  q_c1 (O 177 h9 [.ref 67, .int x1, .int x2, .int x3, .int x4]) (fun h13 v14 =>
                  some (h13, some (.int v14)))
                else
                  q_c1 (O 178 h9 [.ref 67, .int x1, .int x2, .int x3, .int x4, .int x5]) (fun h15 v16 =>
                  some (h15, some (.int v16)))))))))) := by rfl
-- WhirlShaftsModel.fittingKinds(IIII)I with (67, None, None, None, None)
set_option maxRecDepth 20000 in
theorem b177_0 (X : q_X) (O : q_O) (n : Nat) (h : q_S) (x1 : Int32) (x2 : Int32) (x3 : Int32) (x4 : Int32) : q_go e_177 X O (n + 1) 0 [(0, .ref 67), (1, .int x1), (2, .int x2), (3, .int x3), (4, .int x4)] [] h =
  q_ix x4 8 (fun j1 =>
  q_go e_177 X O n 15 [(0, .ref 67), (1, .int x1), (2, .int x2), (3, .int x3), (4, .int x4), (5, .int (h.1 68 j1)), (6, .int 0), (7, .int 0)] [] h) := by rfl
set_option maxRecDepth 20000 in
theorem b177_15 (X : q_X) (O : q_O) (n : Nat) (h : q_S) (x1 : Int32) (x2 : Int32) (x3 : Int32) (x4 : Int32) (x5 : Int32) (x6 : Int32) (x7 : Int32) : q_go e_177 X O (n + 1) 15 [(0, .ref 67), (1, .int x1), (2, .int x2), (3, .int x3), (4, .int x4), (5, .int x5), (6, .int x6), (7, .int x7)] [] h =
  if x7 < 5 then
    q_ix x4 8 (fun j1 =>
    q_c1 (O 175 (q_si h 68 j1 x7) [.ref 67, .int x1, .int x2, .int x3]) (fun h2 v3 =>
    if v3 = 0 then
      q_go e_177 X O n 15 [(0, .ref 67), (1, .int x1), (2, .int x2), (3, .int x3), (4, .int x4), (5, .int x5), (6, .int (x6 ||| 0)), (7, .int (x7 + 1))] [] h2
    else
      q_go e_177 X O n 15 [(0, .ref 67), (1, .int x1), (2, .int x2), (3, .int x3), (4, .int x4), (5, .int x5), (6, .int (x6 ||| (1 <<< (x7 &&& 31)))), (7, .int (x7 + 1))] [] h2))
  else
    q_ix x4 8 (fun j4 =>
    some ((q_si h 68 j4 x5), some (.int x6))) := by rfl
-- WhirlShaftsModel.fittingMasses(IIIII)I with (67, None, None, None, None, None)
set_option maxRecDepth 20000 in
theorem b178_0 (X : q_X) (O : q_O) (n : Nat) (h : q_S) (x1 : Int32) (x2 : Int32) (x3 : Int32) (x4 : Int32) (x5 : Int32) : q_go e_178 X O (n + 1) 0 [(0, .ref 67), (1, .int x1), (2, .int x2), (3, .int x3), (4, .int x4), (5, .int x5)] [] h =
  q_ix x4 8 (fun j1 =>
  q_go e_178 X O n 20 [(0, .ref 67), (1, .int x1), (2, .int x2), (3, .int x3), (4, .int x4), (5, .int x5), (6, .int (h.1 69 j1)), (7, .int 0), (8, .int (-2)), (9, .int 99)] [] h) := by rfl
set_option maxRecDepth 20000 in
theorem b178_20 (X : q_X) (O : q_O) (n : Nat) (h : q_S) (x1 : Int32) (x2 : Int32) (x3 : Int32) (x4 : Int32) (x5 : Int32) (x6 : Int32) (x7 : Int32) (x8 : Int32) (x9 : Int32) : q_go e_178 X O (n + 1) 20 [(0, .ref 67), (1, .int x1), (2, .int x2), (3, .int x3), (4, .int x4), (5, .int x5), (6, .int x6), (7, .int x7), (8, .int x8), (9, .int x9)] [] h =
  if 0 < x9 then
    q_ix x4 8 (fun j1 =>
    q_c1 (O 175 (q_si h 69 j1 x9) [.ref 67, .int x1, .int x2, .int x3]) (fun h2 v3 =>
    if v3 = 0 then
      q_go e_178 X O n 20 [(0, .ref 67), (1, .int x1), (2, .int x2), (3, .int x3), (4, .int x4), (5, .int x5), (6, .int x6), (7, .int x7), (8, .int x8), (9, .int (x9 + (-1)))] [] h2
    else
      q_go e_178 X O n 20 [(0, .ref 67), (1, .int x1), (2, .int x2), (3, .int x3), (4, .int x4), (5, .int x5), (6, .int x6), (7, .int (x7 + 1)), (8, .int x9), (9, .int (x9 + (-1)))] [] h2))
  else
    q_ix x4 8 (fun j4 =>
    if x5 = 0 then
      some ((q_si h 69 j4 x6), some (.int x7))
    else
      some ((q_si h 69 j4 x6), some (.int x8))) := by rfl
-- WhirlShaftsModel.judge(II)I with (67, None, None)
set_option maxRecDepth 20000 in
theorem b179_0 (X : q_X) (O : q_O) (n : Nat) (h : q_S) (x1 : Int32) (x2 : Int32) : q_go e_179 X O (n + 1) 0 [(0, .ref 67), (1, .int x1), (2, .int x2)] [] h =
  q_c1 (O 168 h [.int x1]) (fun h1 v2 =>
  if v2 = 0 then
    some (h1, some (.int (-1)))
  else
    q_c1 (O 123 h1 [.int x2]) (fun h3 v4 =>
    if v4 = 0 then
      some (h3, some (.int (-1)))
    else
      q_ix x1 3 (fun j5 =>
      if (h3.1 85 j5) < 0 then
        some (h3, some (.int (-11)))
      else
        q_go e_179 X O n 30 [(0, .ref 67), (1, .int x1), (2, .int x2), (3, .int 0)] [] h3))) := by rfl
set_option maxRecDepth 20000 in
theorem b179_30 (X : q_X) (O : q_O) (n : Nat) (h : q_S) (x1 : Int32) (x2 : Int32) (x3 : Int32) : q_go e_179 X O (n + 1) 30 [(0, .ref 67), (1, .int x1), (2, .int x2), (3, .int x3)] [] h =
  if x3 < (h.1 67 0) then
    q_ix x1 3 (fun j1 =>
    if x3 < (h.1 86 j1) then
      q_c1 (O 133 h [.ref 67, .int x3, .int x2]) (fun h2 v3 =>
      q_ix ((40 * x1) + x3) 120 (fun j4 =>
      if (lg_cmp (((v3 : Int32)).toInt64) (h2.2.1 87 j4)) = 0 then
        q_go e_179 X O n 30 [(0, .ref 67), (1, .int x1), (2, .int x2), (3, .int (x3 + 1))] [] h2
      else
        some (h2, some (.int x3))))
    else
      some (h, some (.int (100 + x3))))
  else
    some (h, some (.int (-2))) := by rfl
-- WhirlShaftsModel.order(III)I with (67, None, None, None)
set_option maxRecDepth 20000 in
theorem b180_0 (X : q_X) (O : q_O) (n : Nat) (h : q_S) (x1 : Int32) (x2 : Int32) (x3 : Int32) : q_go e_180 X O (n + 1) 0 [(0, .ref 67), (1, .int x1), (2, .int x2), (3, .int x3)] [] h =
  q_c1 (O 120 h [.int x1, .int 0, .int 5]) (fun h1 v2 =>
  if v2 = 0 then
    some (h1, some (.int (-1)))
  else
    if (h1.1 67 26) = 8 then
      some (h1, some (.int (-3)))
    else
      q_ix (h1.1 67 26) 8 (fun j3 =>
      q_ix (h1.1 67 26) 8 (fun j4 =>
      q_ix (h1.1 67 26) 8 (fun j5 =>
      some ((q_si (q_si (q_si (q_si h1 89 j3 x1) 90 j4 x2) 91 j5 x3) 67 26 ((h1.1 67 26) + 1)), some (.int ((h1.1 67 26) + 1))))))) := by rfl
-- WhirlShaftsModel.tried(II)I with (67, None, None)
set_option maxRecDepth 20000 in
theorem b181_0 (X : q_X) (O : q_O) (n : Nat) (h : q_S) (x1 : Int32) (x2 : Int32) : q_go e_181 X O (n + 1) 0 [(0, .ref 67), (1, .int x1), (2, .int x2)] [] h =
  q_c1 (O 155 h [.ref 67, .int x1, .int x2]) (fun h1 v2 =>
  if v2 = 0 then
    some (h1, some (.int (-1)))
  else
    q_c0 (O 202 h1 [.ref 67, .int 0, .int 1]) (fun h3 =>
    q_go e_181 X O n 19 [(0, .ref 67), (1, .int x1), (2, .int x2), (3, .int 0)] [] h3)) := by rfl
set_option maxRecDepth 20000 in
theorem b181_19 (X : q_X) (O : q_O) (n : Nat) (h : q_S) (x1 : Int32) (x2 : Int32) (x3 : Int32) : q_go e_181 X O (n + 1) 19 [(0, .ref 67), (1, .int x1), (2, .int x2), (3, .int x3)] [] h =
  if x3 < (h.1 67 26) then
    q_ix x3 8 (fun j1 =>
    q_ix x3 8 (fun j2 =>
    q_ix x3 8 (fun j3 =>
    q_c1 (O 143 h [.ref 67, .int (h.1 89 j1), .int (h.1 90 j2), .int (h.1 91 j3)]) (fun h4 v5 =>
    if v5 = 0 then
      q_ix x3 8 (fun j6 =>
      q_ix x3 8 (fun j7 =>
      q_ix x3 8 (fun j8 =>
      q_c0 (O 139 h4 [.ref 67, .int (h4.1 89 j6), .int (h4.1 90 j7), .int (h4.1 91 j8)]) (fun h9 =>
      q_go e_181 X O n 19 [(0, .ref 67), (1, .int x1), (2, .int x2), (3, .int (x3 + 1))] [] h9))))
    else
      q_go e_181 X O n 19 [(0, .ref 67), (1, .int x1), (2, .int x2), (3, .int (x3 + 1))] [] h4))))
  else
    q_c1 (O 133 h [.ref 67, .int x1, .int x2]) (fun h10 v11 =>
    q_c0 (O 202 h10 [.ref 67, .int 0, .int 0]) (fun h12 =>
    some (h12, some (.int v11)))) := by rfl
-- WhirlShaftsModel.does()I with (67,)
set_option maxRecDepth 20000 in
theorem b182_0 (X : q_X) (O : q_O) (n : Nat) (h : q_S)  : q_go e_182 X O (n + 1) 0 [(0, .ref 67)] [] h =
  q_go e_182 X O n 4 [(0, .ref 67), (1, .int 0), (2, .int 0)] [] h := by rfl
set_option maxRecDepth 20000 in
theorem b182_4 (X : q_X) (O : q_O) (n : Nat) (h : q_S) (x1 : Int32) (x2 : Int32) : q_go e_182 X O (n + 1) 4 [(0, .ref 67), (1, .int x1), (2, .int x2)] [] h =
  if x2 < (h.1 67 26) then
    q_ix x2 8 (fun j1 =>
    q_ix x2 8 (fun j2 =>
    q_ix x2 8 (fun j3 =>
    q_c1 (O 145 h [.ref 67, .int (h.1 89 j1), .int (h.1 90 j2), .int (h.1 91 j3)]) (fun h4 v5 =>
    if v5 < 0 then
      q_go e_182 X O n 4 [(0, .ref 67), (1, .int (x1 + 0)), (2, .int (x2 + 1))] [] h4
    else
      q_go e_182 X O n 4 [(0, .ref 67), (1, .int (x1 + 1)), (2, .int (x2 + 1))] [] h4))))
  else
    some ((q_si h 67 26 0), some (.int x1)) := by rfl
-- WhirlShaftsModel.drop()I with (67,)
set_option maxRecDepth 20000 in
theorem b183_0 (X : q_X) (O : q_O) (n : Nat) (h : q_S)  : q_go e_183 X O (n + 1) 0 [(0, .ref 67)] [] h =
  some ((q_si h 67 26 0), some (.int (h.1 67 26))) := by rfl
-- WhirlShaftsModel.feed(I)I with (67, None)
set_option maxRecDepth 20000 in
theorem b184_0 (X : q_X) (O : q_O) (n : Nat) (h : q_S) (x1 : Int32) : q_go e_184 X O (n + 1) 0 [(0, .ref 67), (1, .int x1)] [] h =
  q_c1 (O 120 h [.int x1, .int 32, .int 126]) (fun h1 v2 =>
  if v2 = 0 then
    some (h1, some (.int (-1)))
  else
    if (h1.1 67 35) = 80 then
      some (h1, some (.int (-3)))
    else
      q_ix (h1.1 67 35) 80 (fun j3 =>
      some ((q_si (q_si h1 92 j3 x1) 67 35 ((h1.1 67 35) + 1)), some (.int ((h1.1 67 35) + 1))))) := by rfl
-- WhirlShaftsModel.wipe()I with (67,)
set_option maxRecDepth 20000 in
theorem b185_0 (X : q_X) (O : q_O) (n : Nat) (h : q_S)  : q_go e_185 X O (n + 1) 0 [(0, .ref 67)] [] h =
  some ((q_si h 67 35 0), some (.int (h.1 67 35))) := by rfl
-- WhirlShaftsModel.next()I with (67,)
set_option maxRecDepth 20000 in
theorem b186_0 (X : q_X) (O : q_O) (n : Nat) (h : q_S)  : q_go e_186 X O (n + 1) 0 [(0, .ref 67)] [] h =
  if (h.1 67 36) < (h.1 67 35) then
    q_ix (h.1 67 36) 80 (fun j1 =>
    some (h, some (.int (h.1 92 j1))))
  else
    some (h, some (.int (-1))) := by rfl
-- WhirlShaftsModel.numbersOf(I)I with (None,)
set_option maxRecDepth 20000 in
theorem b187_0 (X : q_X) (O : q_O) (n : Nat) (h : q_S) (x0 : Int32) : q_go e_187 X O (n + 1) 0 [(0, .int x0)] [] h =
  if x0 = 98 then
    some (h, some (.int 2))
  else if x0 = 99 then
    some (h, some (.int (-1)))
  else if x0 = 100 then
    some (h, some (.int 3))
  else if x0 = 101 then
    some (h, some (.int (-1)))
  else if x0 = 102 then
    some (h, some (.int (-1)))
  else if x0 = 103 then
    some (h, some (.int 2))
  else if x0 = 104 then
    some (h, some (.int (-1)))
  else if x0 = 105 then
    some (h, some (.int 2))
  else if x0 = 106 then
    some (h, some (.int (-1)))
  else if x0 = 107 then
    some (h, some (.int 2))
  else if x0 = 108 then
    some (h, some (.int (-1)))
  else if x0 = 109 then
    some (h, some (.int (-1)))
  else if x0 = 110 then
    some (h, some (.int 1))
  else if x0 = 111 then
    some (h, some (.int (-1)))
  else if x0 = 112 then
    some (h, some (.int (-1)))
  else if x0 = 113 then
    some (h, some (.int (-1)))
  else if x0 = 114 then
    some (h, some (.int (-1)))
  else if x0 = 115 then
    some (h, some (.int (-1)))
  else if x0 = 116 then
    some (h, some (.int (-1)))
  else if x0 = 117 then
    some (h, some (.int (-1)))
  else if x0 = 118 then
    some (h, some (.int (-1)))
  else if x0 = 119 then
    some (h, some (.int 1))
  else if x0 = 120 then
    some (h, some (.int 0))
  else 
    some (h, some (.int (-1))) := by rfl
-- WhirlShaftsModel.number()I with (67,)
set_option maxRecDepth 20000 in
theorem b188_0 (X : q_X) (O : q_O) (n : Nat) (h : q_S)  : q_go e_188 X O (n + 1) 0 [(0, .ref 67)] [] h =
  q_c1 (O 186 h [.ref 67]) (fun h1 v2 =>
  q_c1 (O 120 h1 [.int v2, .int 48, .int 57]) (fun h3 v4 =>
  if v4 = 0 then
    some (h3, some (.int (-1)))
  else
    q_c1 (O 186 h3 [.ref 67]) (fun h5 v6 =>
    q_c1 (O 186 (q_si h5 67 36 ((h5.1 67 36) + 1)) [.ref 67]) (fun h7 v8 =>
    q_c1 (O 120 h7 [.int v8, .int 48, .int 57]) (fun h9 v10 =>
    if v10 = 0 then
      some (h9, some (.int (v6 - 48)))
    else
      q_c1 (O 186 h9 [.ref 67]) (fun h11 v12 =>
      some ((q_si h11 67 36 ((h11.1 67 36) + 1)), some (.int (((10 * (v6 - 48)) + v12) - 48))))))))) := by rfl
-- WhirlShaftsModel.reads()Z with (67,)
set_option maxRecDepth 20000 in
theorem b189_0 (X : q_X) (O : q_O) (n : Nat) (h : q_S)  : q_go e_189 X O (n + 1) 0 [(0, .ref 67)] [] h =
  q_c1 (O 186 h [.ref 67]) (fun h1 v2 =>
  q_c1 (O 187 h1 [.int v2]) (fun h3 v4 =>
  if v4 < 0 then
    some (h3, some (.int 0))
  else
    q_c1 (O 186 h3 [.ref 67]) (fun h5 v6 =>
    q_ix (h3.1 67 37) 40 (fun j7 =>
    q_go e_189 X O n 39 [(0, .ref 67), (1, .int v4), (2, .int 0)] [] (q_si (q_si h5 93 j7 v6) 67 36 ((h5.1 67 36) + 1)))))) := by rfl
set_option maxRecDepth 20000 in
theorem b189_39 (X : q_X) (O : q_O) (n : Nat) (h : q_S) (x1 : Int32) (x2 : Int32) : q_go e_189 X O (n + 1) 39 [(0, .ref 67), (1, .int x1), (2, .int x2)] [] h =
  if x2 < x1 then
    if 0 < x2 then
      q_c1 (O 186 h [.ref 67]) (fun h1 v2 =>
      if v2 = 44 then
        q_go e_189 X O n 69 [(0, .ref 67), (1, .int x1), (2, .int x2)] [] (q_si h1 67 36 ((h1.1 67 36) + 1))
      else
        some (h1, some (.int 0)))
    else
      q_go e_189 X O n 69 [(0, .ref 67), (1, .int x1), (2, .int x2)] [] h
  else
    some ((q_si h 67 37 ((h.1 67 37) + 1)), some (.int 1)) := by rfl
set_option maxRecDepth 20000 in
theorem b189_69 (X : q_X) (O : q_O) (n : Nat) (h : q_S) (x1 : Int32) (x2 : Int32) : q_go e_189 X O (n + 1) 69 [(0, .ref 67), (1, .int x1), (2, .int x2)] [] h =
  q_c1 (O 188 h [.ref 67]) (fun h1 v2 =>
  if v2 < 0 then
    some (h1, some (.int 0))
  else
    if x2 = 0 then
      q_ix (h1.1 67 37) 40 (fun j3 =>
      if x2 = 1 then
        q_ix (h1.1 67 37) 40 (fun j4 =>
        q_go e_189 X O n 109 [(0, .ref 67), (1, .int x1), (2, .int x2), (3, .int v2)] [] (q_si (q_si h1 94 j3 v2) 95 j4 v2))
      else
        q_go e_189 X O n 109 [(0, .ref 67), (1, .int x1), (2, .int x2), (3, .int v2)] [] (q_si h1 94 j3 v2))
    else
      if x2 = 1 then
        q_ix (h1.1 67 37) 40 (fun j5 =>
        q_go e_189 X O n 109 [(0, .ref 67), (1, .int x1), (2, .int x2), (3, .int v2)] [] (q_si h1 95 j5 v2))
      else
        q_go e_189 X O n 109 [(0, .ref 67), (1, .int x1), (2, .int x2), (3, .int v2)] [] h1) := by rfl
set_option maxRecDepth 20000 in
theorem b189_109 (X : q_X) (O : q_O) (n : Nat) (h : q_S) (x1 : Int32) (x2 : Int32) (x3 : Int32) : q_go e_189 X O (n + 1) 109 [(0, .ref 67), (1, .int x1), (2, .int x2), (3, .int x3)] [] h =
  if x2 = 2 then
    q_ix (h.1 67 37) 40 (fun j1 =>
    q_go e_189 X O n 39 [(0, .ref 67), (1, .int x1), (2, .int (x2 + 1))] [] (q_si h 96 j1 x3))
  else
    q_go e_189 X O n 39 [(0, .ref 67), (1, .int x1), (2, .int (x2 + 1))] [] h := by rfl
-- WhirlShaftsModel.readsAll()Z with (67,)
set_option maxRecDepth 20000 in
theorem b190_0 (X : q_X) (O : q_O) (n : Nat) (h : q_S)  : q_go e_190 X O (n + 1) 0 [(0, .ref 67)] [] h =
  q_c1 (O 189 (q_si (q_si h 67 36 0) 67 37 0) [.ref 67]) (fun h1 v2 =>
  q_go e_190 X O n 15 [(0, .ref 67), (1, .int v2)] [] h1) := by rfl
set_option maxRecDepth 20000 in
theorem b190_15 (X : q_X) (O : q_O) (n : Nat) (h : q_S) (x1 : Int32) : q_go e_190 X O (n + 1) 15 [(0, .ref 67), (1, .int x1)] [] h =
  if x1 = 0 then
    q_go e_190 X O n 46 [(0, .ref 67), (1, .int x1)] [] h
  else
    q_c1 (O 186 h [.ref 67]) (fun h1 v2 =>
    if v2 = 59 then
      q_c1 (O 189 (q_si h1 67 36 ((h1.1 67 36) + 1)) [.ref 67]) (fun h3 v4 =>
      q_go e_190 X O n 15 [(0, .ref 67), (1, .int v4)] [] h3)
    else
      q_go e_190 X O n 46 [(0, .ref 67), (1, .int x1)] [] h1) := by rfl
set_option maxRecDepth 20000 in
theorem b190_46 (X : q_X) (O : q_O) (n : Nat) (h : q_S) (x1 : Int32) : q_go e_190 X O (n + 1) 46 [(0, .ref 67), (1, .int x1)] [] h =
  if x1 = 0 then
    some (h, some (.int 0))
  else
    if (h.1 67 36) = (h.1 67 35) then
      some (h, some (.int 1))
    else
      some (h, some (.int 0)) := by rfl
-- WhirlShaftsModel.done(I)I with (67, None)
set_option maxRecDepth 20000 in
theorem b191_0 (X : q_X) (O : q_O) (n : Nat) (h : q_S) (x1 : Int32) : q_go e_191 X O (n + 1) 0 [(0, .ref 67), (1, .int x1)] [] h =
  q_ix x1 40 (fun j1 =>
  if (h.1 93 j1) = 98 then
    q_ix x1 40 (fun j2 =>
    q_ix x1 40 (fun j3 =>
    q_c1 (O 145 h [.ref 67, .int 2, .int (h.1 94 j2), .int (h.1 95 j3)]) (fun h4 v5 =>
    some (h4, some (.int v5)))))
  else if (h.1 93 j1) = 99 then
    q_c1 (O 136 h [.ref 67]) (fun h6 v7 =>
    some (h6, some (.int v7)))
  else if (h.1 93 j1) = 100 then
    q_ix x1 40 (fun j8 =>
    q_ix x1 40 (fun j9 =>
    q_ix x1 40 (fun j10 =>
    q_c1 (O 135 h [.ref 67, .int (h.1 94 j8), .int (h.1 95 j9), .int (h.1 96 j10)]) (fun h11 v12 =>
    some (h11, some (.int v12))))))
  else if (h.1 93 j1) = 101 then
    q_c1 (O 136 h [.ref 67]) (fun h13 v14 =>
    some (h13, some (.int v14)))
  else if (h.1 93 j1) = 102 then
    q_c1 (O 136 h [.ref 67]) (fun h15 v16 =>
    some (h15, some (.int v16)))
  else if (h.1 93 j1) = 103 then
    q_ix x1 40 (fun j17 =>
    q_ix x1 40 (fun j18 =>
    q_c1 (O 145 h [.ref 67, .int 3, .int (h.1 94 j17), .int (h.1 95 j18)]) (fun h19 v20 =>
    some (h19, some (.int v20)))))
  else if (h.1 93 j1) = 104 then
    q_c1 (O 136 h [.ref 67]) (fun h21 v22 =>
    some (h21, some (.int v22)))
  else if (h.1 93 j1) = 105 then
    q_ix x1 40 (fun j23 =>
    q_ix x1 40 (fun j24 =>
    q_c1 (O 145 h [.ref 67, .int 0, .int (h.1 94 j23), .int (h.1 95 j24)]) (fun h25 v26 =>
    some (h25, some (.int v26)))))
  else if (h.1 93 j1) = 106 then
    q_c1 (O 136 h [.ref 67]) (fun h27 v28 =>
    some (h27, some (.int v28)))
  else if (h.1 93 j1) = 107 then
    q_ix x1 40 (fun j29 =>
    q_ix x1 40 (fun j30 =>
    q_c1 (O 145 h [.ref 67, .int 1, .int (h.1 94 j29), .int (h.1 95 j30)]) (fun h31 v32 =>
    some (h31, some (.int v32)))))
  else if (h.1 93 j1) = 108 then
    q_c1 (O 136 h [.ref 67]) (fun h33 v34 =>
    some (h33, some (.int v34)))
  else if (h.1 93 j1) = 109 then
    q_c1 (O 136 h [.ref 67]) (fun h35 v36 =>
    some (h35, some (.int v36)))
  else if (h.1 93 j1) = 110 then
    q_ix x1 40 (fun j37 =>
    q_c1 (O 145 h [.ref 67, .int 4, .int 0, .int (h.1 94 j37)]) (fun h38 v39 =>
    some (h38, some (.int v39))))
  else if (h.1 93 j1) = 111 then
    q_c1 (O 136 h [.ref 67]) (fun h40 v41 =>
    some (h40, some (.int v41)))
  else if (h.1 93 j1) = 112 then
    q_c1 (O 136 h [.ref 67]) (fun h42 v43 =>
    some (h42, some (.int v43)))
  else if (h.1 93 j1) = 113 then
    q_c1 (O 136 h [.ref 67]) (fun h44 v45 =>
    some (h44, some (.int v45)))
  else if (h.1 93 j1) = 114 then
    q_c1 (O 136 h [.ref 67]) (fun h46 v47 =>
    some (h46, some (.int v47)))
  else if (h.1 93 j1) = 115 then
    q_c1 (O 136 h [.ref 67]) (fun h48 v49 =>
    some (h48, some (.int v49)))
  else if (h.1 93 j1) = 116 then
    q_c1 (O 136 h [.ref 67]) (fun h50 v51 =>
    some (h50, some (.int v51)))
  else if (h.1 93 j1) = 117 then
    q_c1 (O 136 h [.ref 67]) (fun h52 v53 =>
    some (h52, some (.int v53)))
  else if (h.1 93 j1) = 118 then
    q_c1 (O 136 h [.ref 67]) (fun h54 v55 =>
    some (h54, some (.int v55)))
  else if (h.1 93 j1) = 119 then
    q_ix x1 40 (fun j56 =>
    q_c1 (O 145 h [.ref 67, .int 5, .int 0, .int (h.1 94 j56)]) (fun h57 v58 =>
    some (h57, some (.int v58))))
  else 
    q_c1 (O 136 h [.ref 67]) (fun h59 v60 =>
    some (h59, some (.int v60)))) := by rfl
-- WhirlShaftsModel.read()I with (67,)
set_option maxRecDepth 20000 in
theorem b192_0 (X : q_X) (O : q_O) (n : Nat) (h : q_S)  : q_go e_192 X O (n + 1) 0 [(0, .ref 67)] [] h =
  q_c1 (O 190 h [.ref 67]) (fun h1 v2 =>
  if v2 = 0 then
    some ((q_si h1 67 35 0), some (.int ((-100) - (h1.1 67 36))))
  else
    q_go e_192 X O n 24 [(0, .ref 67), (2, .int 0)] [] (q_si h1 67 35 0)) := by rfl
set_option maxRecDepth 20000 in
theorem b192_24 (X : q_X) (O : q_O) (n : Nat) (h : q_S) (x2 : Int32) : q_go e_192 X O (n + 1) 24 [(0, .ref 67), (2, .int x2)] [] h =
  if x2 < (h.1 67 37) then
    q_c1 (O 191 h [.ref 67, .int x2]) (fun h1 v2 =>
    if v2 < 0 then
      some (h1, some (.int ((-200) - x2)))
    else
      q_go e_192 X O n 24 [(0, .ref 67), (2, .int (x2 + 1))] [] h1)
  else
    some (h, some (.int (h.1 67 37))) := by rfl
-- WhirlShaftsModel.note(I)V with (67, None)
set_option maxRecDepth 20000 in
theorem b193_0 (X : q_X) (O : q_O) (n : Nat) (h : q_S) (x1 : Int32) : q_go e_193 X O (n + 1) 0 [(0, .ref 67), (1, .int x1)] [] h =
  if (h.1 67 39) < 24 then
    q_ix (h.1 67 39) 24 (fun j1 =>
    some ((q_si (q_si h 97 j1 x1) 67 39 ((h.1 67 39) + 1)), none))
  else
    some ((q_si h 67 39 ((h.1 67 39) + 1)), none) := by rfl
-- WhirlShaftsModel.spins(II)I with (67, None, None)
set_option maxRecDepth 20000 in
theorem b194_0 (X : q_X) (O : q_O) (n : Nat) (h : q_S) (x1 : Int32) (x2 : Int32) : q_go e_194 X O (n + 1) 0 [(0, .ref 67), (1, .int x1), (2, .int x2)] [] h =
  q_ix x1 8 (fun j1 =>
  if (h.1 68 j1) = 2 then
    q_go e_194 X O n 25 [(0, .ref 67), (1, .int x1), (2, .int x2)] [.int 1] h
  else
    q_ix x1 8 (fun j2 =>
    if (h.1 68 j2) = 4 then
      q_go e_194 X O n 25 [(0, .ref 67), (1, .int x1), (2, .int x2)] [.int 1] h
    else
      q_go e_194 X O n 25 [(0, .ref 67), (1, .int x1), (2, .int x2)] [.int 0] h)) := by rfl
set_option maxRecDepth 20000 in
theorem b194_25 (X : q_X) (O : q_O) (n : Nat) (h : q_S) (x1 : Int32) (x2 : Int32) (s0 : Int32) : q_go e_194 X O (n + 1) 25 [(0, .ref 67), (1, .int x1), (2, .int x2)] [.int s0] h =
  if s0 = 0 then
    q_ix x1 8 (fun j1 =>
    if (h.1 68 j1) = 3 then
      q_c0 (O 193 h [.ref 67, .int 41]) (fun h2 =>
      q_go e_194 X O n 52 [(0, .ref 67), (1, .int x1), (2, .int x2), (3, .int s0)] [] h2)
    else
      q_go e_194 X O n 52 [(0, .ref 67), (1, .int x1), (2, .int x2), (3, .int s0)] [] h)
  else
    q_c0 (O 193 h [.ref 67, .int 30]) (fun h3 =>
    q_ix x1 8 (fun j4 =>
    if (h3.1 68 j4) = 3 then
      q_c0 (O 193 h3 [.ref 67, .int 41]) (fun h5 =>
      q_go e_194 X O n 52 [(0, .ref 67), (1, .int x1), (2, .int x2), (3, .int s0)] [] h5)
    else
      q_go e_194 X O n 52 [(0, .ref 67), (1, .int x1), (2, .int x2), (3, .int s0)] [] h3)) := by rfl
set_option maxRecDepth 20000 in
theorem b194_52 (X : q_X) (O : q_O) (n : Nat) (h : q_S) (x1 : Int32) (x2 : Int32) (x3 : Int32) : q_go e_194 X O (n + 1) 52 [(0, .ref 67), (1, .int x1), (2, .int x2), (3, .int x3)] [] h =
  q_c0 (O 193 h [.ref 67, .int 10]) (fun h1 =>
  if x3 = 0 then
    q_ix x1 8 (fun j2 =>
    if (h1.1 68 j2) = 3 then
      some (h1, some (.int ((x2 + x1) * 3)))
    else
      some (h1, some (.int (x2 + x1))))
  else
    some (h1, some (.int (-(x2 + x1))))) := by rfl
-- WhirlShaftsModel.swings(II)I with (67, None, None)
set_option maxRecDepth 20000 in
theorem b195_0 (X : q_X) (O : q_O) (n : Nat) (h : q_S) (x1 : Int32) (x2 : Int32) : q_go e_195 X O (n + 1) 0 [(0, .ref 67), (1, .int x1), (2, .int x2)] [] h =
  q_ix x1 8 (fun j1 =>
  if (h.1 68 j1) = 1 then
    q_go e_195 X O n 25 [(0, .ref 67), (1, .int x1), (2, .int x2)] [.int 1] h
  else
    q_ix x1 8 (fun j2 =>
    if (h.1 68 j2) = 3 then
      q_go e_195 X O n 25 [(0, .ref 67), (1, .int x1), (2, .int x2)] [.int 1] h
    else
      q_go e_195 X O n 25 [(0, .ref 67), (1, .int x1), (2, .int x2)] [.int 0] h)) := by rfl
set_option maxRecDepth 20000 in
theorem b195_25 (X : q_X) (O : q_O) (n : Nat) (h : q_S) (x1 : Int32) (x2 : Int32) (s0 : Int32) : q_go e_195 X O (n + 1) 25 [(0, .ref 67), (1, .int x1), (2, .int x2)] [.int s0] h =
  if s0 = 0 then
    q_ix x1 8 (fun j1 =>
    if (h.1 68 j1) = 4 then
      q_c0 (O 193 h [.ref 67, .int 50]) (fun h2 =>
      q_go e_195 X O n 52 [(0, .ref 67), (1, .int x1), (2, .int x2), (3, .int s0)] [] h2)
    else
      q_go e_195 X O n 52 [(0, .ref 67), (1, .int x1), (2, .int x2), (3, .int s0)] [] h)
  else
    q_c0 (O 193 h [.ref 67, .int 20]) (fun h3 =>
    q_ix x1 8 (fun j4 =>
    if (h3.1 68 j4) = 4 then
      q_c0 (O 193 h3 [.ref 67, .int 50]) (fun h5 =>
      q_go e_195 X O n 52 [(0, .ref 67), (1, .int x1), (2, .int x2), (3, .int s0)] [] h5)
    else
      q_go e_195 X O n 52 [(0, .ref 67), (1, .int x1), (2, .int x2), (3, .int s0)] [] h3)) := by rfl
set_option maxRecDepth 20000 in
theorem b195_52 (X : q_X) (O : q_O) (n : Nat) (h : q_S) (x1 : Int32) (x2 : Int32) (x3 : Int32) : q_go e_195 X O (n + 1) 52 [(0, .ref 67), (1, .int x1), (2, .int x2), (3, .int x3)] [] h =
  q_c0 (O 193 h [.ref 67, .int 11]) (fun h1 =>
  q_c1 (O 194 h1 [.ref 67, .int x1, .int x2]) (fun h2 v3 =>
  if x3 = 0 then
    q_ix x1 8 (fun j4 =>
    if (h2.1 68 j4) = 4 then
      q_c1 (O 194 h2 [.ref 67, .int x1, .int 2]) (fun h5 v6 =>
      some (h5, some (.int ((v3 * 2) + v6))))
    else
      some (h2, some (.int (v3 * 2))))
  else
    some (h2, some (.int ((v3 * 2) ^^^ 3))))) := by rfl
-- WhirlShaftsModel.tells(II)I with (67, None, None)
set_option maxRecDepth 20000 in
theorem b196_0 (X : q_X) (O : q_O) (n : Nat) (h : q_S) (x1 : Int32) (x2 : Int32) : q_go e_196 X O (n + 1) 0 [(0, .ref 67), (1, .int x1), (2, .int x2)] [] h =
  q_ix x1 8 (fun j1 =>
  if (h.1 68 j1) = 3 then
    q_c0 (O 193 h [.ref 67, .int 40]) (fun h2 =>
    q_go e_196 X O n 16 [(0, .ref 67), (1, .int x1), (2, .int x2)] [] h2)
  else
    q_go e_196 X O n 16 [(0, .ref 67), (1, .int x1), (2, .int x2)] [] h) := by rfl
set_option maxRecDepth 20000 in
theorem b196_16 (X : q_X) (O : q_O) (n : Nat) (h : q_S) (x1 : Int32) (x2 : Int32) : q_go e_196 X O (n + 1) 16 [(0, .ref 67), (1, .int x1), (2, .int x2)] [] h =
  q_c0 (O 193 h [.ref 67, .int 12]) (fun h1 =>
  q_ix x1 8 (fun j2 =>
  if (h1.1 68 j2) = 3 then
    q_c1 (O 195 h1 [.ref 67, .int x1, .int (x2 + 1)]) (fun h3 v4 =>
    q_ix x1 8 (fun j5 =>
    some (h3, some (.int (v4 - (h3.1 69 j5))))))
  else
    q_c1 (O 195 h1 [.ref 67, .int x1, .int x2]) (fun h6 v7 =>
    q_ix x1 8 (fun j8 =>
    some (h6, some (.int (v7 - (h6.1 69 j8)))))))) := by rfl
-- WhirlShaftsModel.act(III)I with (67, None, None, None)
set_option maxRecDepth 20000 in
theorem b197_0 (X : q_X) (O : q_O) (n : Nat) (h : q_S) (x1 : Int32) (x2 : Int32) (x3 : Int32) : q_go e_197 X O (n + 1) 0 [(0, .ref 67), (1, .int x1), (2, .int x2), (3, .int x3)] [] h =
  q_c1 (O 121 h [.ref 67, .int x1]) (fun h1 v2 =>
  if v2 = 0 then
    some (h1, some (.int 0))
  else
    q_c1 (O 120 h1 [.int x2, .int 0, .int 2]) (fun h3 v4 =>
    if v4 = 0 then
      some (h3, some (.int 0))
    else
      if x2 = 0 then
        q_c1 (O 194 (q_si h3 67 39 0) [.ref 67, .int x1, .int x3]) (fun h5 v6 =>
        some (h5, some (.int v6)))
      else
        if x2 = 1 then
          q_c1 (O 195 (q_si h3 67 39 0) [.ref 67, .int x1, .int x3]) (fun h7 v8 =>
          some (h7, some (.int v8)))
        else
          q_c1 (O 196 (q_si h3 67 39 0) [.ref 67, .int x1, .int x3]) (fun h9 v10 =>
          some (h9, some (.int v10))))) := by rfl
-- WhirlShaftsModel.trace(I)I with (67, None)
set_option maxRecDepth 20000 in
theorem b198_0 (X : q_X) (O : q_O) (n : Nat) (h : q_S) (x1 : Int32) : q_go e_198 X O (n + 1) 0 [(0, .ref 67), (1, .int x1)] [] h =
  if x1 < 0 then
    some (h, some (.int (-2)))
  else
    if x1 < 24 then
      if x1 < (h.1 67 39) then
        q_ix x1 24 (fun j1 =>
        some (h, some (.int (h.1 97 j1))))
      else
        some (h, some (.int (-2)))
    else
      some (h, some (.int (-2))) := by rfl
-- WhirlShaftsModel.taken(II)I with (67, None, None)
set_option maxRecDepth 20000 in
theorem b199_0 (X : q_X) (O : q_O) (n : Nat) (h : q_S) (x1 : Int32) (x2 : Int32) : q_go e_199 X O (n + 1) 0 [(0, .ref 67), (1, .int x1), (2, .int x2)] [] h =
  q_c1 (O 121 h [.ref 67, .int x1]) (fun h1 v2 =>
  if v2 = 0 then
    some (h1, some (.int (-1)))
  else
    q_c1 (O 120 h1 [.int x2, .int 0, .int 4]) (fun h3 v4 =>
    if v4 = 0 then
      some (h3, some (.int (-1)))
    else
      if x2 = 0 then
        q_go e_199 X O n 63 [(0, .ref 67), (1, .int x1)] [] h3
      else
        q_ix x1 8 (fun j5 =>
        if (h3.1 68 j5) = x2 then
          q_go e_199 X O n 63 [(0, .ref 67), (1, .int x1)] [] h3
        else
          if x2 = 1 then
            q_ix x1 8 (fun j6 =>
            if (h3.1 68 j6) = 3 then
              q_go e_199 X O n 63 [(0, .ref 67), (1, .int x1)] [] h3
            else
              if x2 = 2 then
                q_ix x1 8 (fun j7 =>
                if (h3.1 68 j7) = 4 then
                  q_go e_199 X O n 63 [(0, .ref 67), (1, .int x1)] [] h3
                else
                  q_go e_199 X O n 67 [(0, .ref 67), (1, .int x1)] [] h3)
              else
                q_go e_199 X O n 67 [(0, .ref 67), (1, .int x1)] [] h3)
          else
            if x2 = 2 then
              q_ix x1 8 (fun j8 =>
              if (h3.1 68 j8) = 4 then
                q_go e_199 X O n 63 [(0, .ref 67), (1, .int x1)] [] h3
              else
                q_go e_199 X O n 67 [(0, .ref 67), (1, .int x1)] [] h3)
            else
              q_go e_199 X O n 67 [(0, .ref 67), (1, .int x1)] [] h3))) := by rfl
set_option maxRecDepth 20000 in
theorem b199_63 (X : q_X) (O : q_O) (n : Nat) (h : q_S) (x1 : Int32) : q_go e_199 X O (n + 1) 63 [(0, .ref 67), (1, .int x1)] [] h =
  if 1 = 0 then
    some (h, some (.int (-5)))
  else
    q_ix x1 8 (fun j1 =>
    some (h, some (.int (h.1 69 j1)))) := by rfl
set_option maxRecDepth 20000 in
theorem b199_67 (X : q_X) (O : q_O) (n : Nat) (h : q_S) (x1 : Int32) : q_go e_199 X O (n + 1) 67 [(0, .ref 67), (1, .int x1)] [] h =
  if 0 = 0 then
    some (h, some (.int (-5)))
  else
    q_ix x1 8 (fun j1 =>
    some (h, some (.int (h.1 69 j1)))) := by rfl
-- WhirlShaftsModel.passOne(I)I with (67, None)
set_option maxRecDepth 20000 in
theorem b200_0 (X : q_X) (O : q_O) (n : Nat) (h : q_S) (x1 : Int32) : q_go e_200 X O (n + 1) 0 [(0, .ref 67), (1, .int x1)] [] h =
  if (h.1 67 46) = 0 then
    q_ix (h.1 67 44) 140 (fun j1 =>
    q_go e_200 X O n 20 [(0, .ref 67)] [.int (h.1 98 j1)] h)
  else
    q_go e_200 X O n 20 [(0, .ref 67)] [.int x1] h := by rfl
set_option maxRecDepth 20000 in
theorem b200_20 (X : q_X) (O : q_O) (n : Nat) (h : q_S) (s0 : Int32) : q_go e_200 X O (n + 1) 20 [(0, .ref 67)] [.int s0] h =
  q_ix (h.1 67 44) 140 (fun j1 =>
  some ((q_si (q_si h 98 j1 s0) 67 44 ((h.1 67 44) + 1)), some (.int s0))) := by rfl
-- WhirlShaftsModel.passes([I)V with (67, 68)
set_option maxRecDepth 20000 in
theorem b201_0 (X : q_X) (O : q_O) (n : Nat) (h : q_S)  : q_go e_201 X O (n + 1) 0 [(0, .ref 67), (1, .ref 68)] [] h =
  q_go e_201 X O n 2 [(0, .ref 67), (1, .ref 68), (2, .int 0)] [] h := by rfl
set_option maxRecDepth 20000 in
theorem b201_2 (X : q_X) (O : q_O) (n : Nat) (h : q_S) (x2 : Int32) : q_go e_201 X O (n + 1) 2 [(0, .ref 67), (1, .ref 68), (2, .int x2)] [] h =
  if x2 < 8 then
    q_ix x2 8 (fun j1 =>
    q_c1 (O 200 h [.ref 67, .int (h.1 68 j1)]) (fun h2 v3 =>
    q_ix x2 8 (fun j4 =>
    q_go e_201 X O n 2 [(0, .ref 67), (1, .ref 68), (2, .int (x2 + 1))] [] (q_si h2 68 j4 v3))))
  else
    some (h, none) := by rfl
-- WhirlShaftsModel.passes([I)V with (67, 69)
set_option maxRecDepth 20000 in
theorem b201_0_1 (X : q_X) (O : q_O) (n : Nat) (h : q_S)  : q_go e_201 X O (n + 1) 0 [(0, .ref 67), (1, .ref 69)] [] h =
  q_go e_201 X O n 2 [(0, .ref 67), (1, .ref 69), (2, .int 0)] [] h := by rfl
set_option maxRecDepth 20000 in
theorem b201_2_1 (X : q_X) (O : q_O) (n : Nat) (h : q_S) (x2 : Int32) : q_go e_201 X O (n + 1) 2 [(0, .ref 67), (1, .ref 69), (2, .int x2)] [] h =
  if x2 < 8 then
    q_ix x2 8 (fun j1 =>
    q_c1 (O 200 h [.ref 67, .int (h.1 69 j1)]) (fun h2 v3 =>
    q_ix x2 8 (fun j4 =>
    q_go e_201 X O n 2 [(0, .ref 67), (1, .ref 69), (2, .int (x2 + 1))] [] (q_si h2 69 j4 v3))))
  else
    some (h, none) := by rfl
-- WhirlShaftsModel.passes([I)V with (67, 70)
set_option maxRecDepth 20000 in
theorem b201_0_2 (X : q_X) (O : q_O) (n : Nat) (h : q_S)  : q_go e_201 X O (n + 1) 0 [(0, .ref 67), (1, .ref 70)] [] h =
  q_go e_201 X O n 2 [(0, .ref 67), (1, .ref 70), (2, .int 0)] [] h := by rfl
set_option maxRecDepth 20000 in
theorem b201_2_2 (X : q_X) (O : q_O) (n : Nat) (h : q_S) (x2 : Int32) : q_go e_201 X O (n + 1) 2 [(0, .ref 67), (1, .ref 70), (2, .int x2)] [] h =
  if x2 < 8 then
    q_ix x2 8 (fun j1 =>
    q_c1 (O 200 h [.ref 67, .int (h.1 70 j1)]) (fun h2 v3 =>
    q_ix x2 8 (fun j4 =>
    q_go e_201 X O n 2 [(0, .ref 67), (1, .ref 70), (2, .int (x2 + 1))] [] (q_si h2 70 j4 v3))))
  else
    some (h, none) := by rfl
-- WhirlShaftsModel.passes([I)V with (67, 71)
set_option maxRecDepth 20000 in
theorem b201_0_3 (X : q_X) (O : q_O) (n : Nat) (h : q_S)  : q_go e_201 X O (n + 1) 0 [(0, .ref 67), (1, .ref 71)] [] h =
  q_go e_201 X O n 2 [(0, .ref 67), (1, .ref 71), (2, .int 0)] [] h := by rfl
set_option maxRecDepth 20000 in
theorem b201_2_3 (X : q_X) (O : q_O) (n : Nat) (h : q_S) (x2 : Int32) : q_go e_201 X O (n + 1) 2 [(0, .ref 67), (1, .ref 71), (2, .int x2)] [] h =
  if x2 < 8 then
    q_ix x2 8 (fun j1 =>
    q_c1 (O 200 h [.ref 67, .int (h.1 71 j1)]) (fun h2 v3 =>
    q_ix x2 8 (fun j4 =>
    q_go e_201 X O n 2 [(0, .ref 67), (1, .ref 71), (2, .int (x2 + 1))] [] (q_si h2 71 j4 v3))))
  else
    some (h, none) := by rfl
-- WhirlShaftsModel.passes([I)V with (67, 72)
set_option maxRecDepth 20000 in
theorem b201_0_4 (X : q_X) (O : q_O) (n : Nat) (h : q_S)  : q_go e_201 X O (n + 1) 0 [(0, .ref 67), (1, .ref 72)] [] h =
  q_go e_201 X O n 2 [(0, .ref 67), (1, .ref 72), (2, .int 0)] [] h := by rfl
set_option maxRecDepth 20000 in
theorem b201_2_4 (X : q_X) (O : q_O) (n : Nat) (h : q_S) (x2 : Int32) : q_go e_201 X O (n + 1) 2 [(0, .ref 67), (1, .ref 72), (2, .int x2)] [] h =
  if x2 < 8 then
    q_ix x2 8 (fun j1 =>
    q_c1 (O 200 h [.ref 67, .int (h.1 72 j1)]) (fun h2 v3 =>
    q_ix x2 8 (fun j4 =>
    q_go e_201 X O n 2 [(0, .ref 67), (1, .ref 72), (2, .int (x2 + 1))] [] (q_si h2 72 j4 v3))))
  else
    some (h, none) := by rfl
-- WhirlShaftsModel.passes([I)V with (67, 89)
set_option maxRecDepth 20000 in
theorem b201_0_5 (X : q_X) (O : q_O) (n : Nat) (h : q_S)  : q_go e_201 X O (n + 1) 0 [(0, .ref 67), (1, .ref 89)] [] h =
  q_go e_201 X O n 2 [(0, .ref 67), (1, .ref 89), (2, .int 0)] [] h := by rfl
set_option maxRecDepth 20000 in
theorem b201_2_5 (X : q_X) (O : q_O) (n : Nat) (h : q_S) (x2 : Int32) : q_go e_201 X O (n + 1) 2 [(0, .ref 67), (1, .ref 89), (2, .int x2)] [] h =
  if x2 < 8 then
    q_ix x2 8 (fun j1 =>
    q_c1 (O 200 h [.ref 67, .int (h.1 89 j1)]) (fun h2 v3 =>
    q_ix x2 8 (fun j4 =>
    q_go e_201 X O n 2 [(0, .ref 67), (1, .ref 89), (2, .int (x2 + 1))] [] (q_si h2 89 j4 v3))))
  else
    some (h, none) := by rfl
-- WhirlShaftsModel.passes([I)V with (67, 90)
set_option maxRecDepth 20000 in
theorem b201_0_6 (X : q_X) (O : q_O) (n : Nat) (h : q_S)  : q_go e_201 X O (n + 1) 0 [(0, .ref 67), (1, .ref 90)] [] h =
  q_go e_201 X O n 2 [(0, .ref 67), (1, .ref 90), (2, .int 0)] [] h := by rfl
set_option maxRecDepth 20000 in
theorem b201_2_6 (X : q_X) (O : q_O) (n : Nat) (h : q_S) (x2 : Int32) : q_go e_201 X O (n + 1) 2 [(0, .ref 67), (1, .ref 90), (2, .int x2)] [] h =
  if x2 < 8 then
    q_ix x2 8 (fun j1 =>
    q_c1 (O 200 h [.ref 67, .int (h.1 90 j1)]) (fun h2 v3 =>
    q_ix x2 8 (fun j4 =>
    q_go e_201 X O n 2 [(0, .ref 67), (1, .ref 90), (2, .int (x2 + 1))] [] (q_si h2 90 j4 v3))))
  else
    some (h, none) := by rfl
-- WhirlShaftsModel.passes([I)V with (67, 91)
set_option maxRecDepth 20000 in
theorem b201_0_7 (X : q_X) (O : q_O) (n : Nat) (h : q_S)  : q_go e_201 X O (n + 1) 0 [(0, .ref 67), (1, .ref 91)] [] h =
  q_go e_201 X O n 2 [(0, .ref 67), (1, .ref 91), (2, .int 0)] [] h := by rfl
set_option maxRecDepth 20000 in
theorem b201_2_7 (X : q_X) (O : q_O) (n : Nat) (h : q_S) (x2 : Int32) : q_go e_201 X O (n + 1) 2 [(0, .ref 67), (1, .ref 91), (2, .int x2)] [] h =
  if x2 < 8 then
    q_ix x2 8 (fun j1 =>
    q_c1 (O 200 h [.ref 67, .int (h.1 91 j1)]) (fun h2 v3 =>
    q_ix x2 8 (fun j4 =>
    q_go e_201 X O n 2 [(0, .ref 67), (1, .ref 91), (2, .int (x2 + 1))] [] (q_si h2 91 j4 v3))))
  else
    some (h, none) := by rfl
-- WhirlShaftsModel.passesAll(IZ)V with (67, None, None)
set_option maxRecDepth 20000 in
theorem b202_0 (X : q_X) (O : q_O) (n : Nat) (h : q_S) (x1 : Int32) (x2 : Int32) : q_go e_202 X O (n + 1) 0 [(0, .ref 67), (1, .int x1), (2, .int x2)] [] h =
  if x2 = 0 ∨ x2 = 1 then
  q_c1 (O 200 (q_si (q_si h 67 44 (70 * x1)) 67 46 x2) [.ref 67, .int (h.1 67 0)]) (fun h1 v2 =>
  q_c1 (O 200 (q_si h1 67 0 v2) [.ref 67, .int (h1.1 67 1)]) (fun h3 v4 =>
  q_c1 (O 200 (q_si h3 67 1 v4) [.ref 67, .int (h3.1 67 2)]) (fun h5 v6 =>
  q_c1 (O 200 (q_si h5 67 2 v6) [.ref 67, .int (h5.1 67 26)]) (fun h7 v8 =>
  q_c0 (O 201 (q_si h7 67 26 v8) [.ref 67, .ref 68]) (fun h9 =>
  q_c0 (O 201 h9 [.ref 67, .ref 69]) (fun h10 =>
  q_c0 (O 201 h10 [.ref 67, .ref 70]) (fun h11 =>
  q_c0 (O 201 h11 [.ref 67, .ref 71]) (fun h12 =>
  q_c0 (O 201 h12 [.ref 67, .ref 72]) (fun h13 =>
  q_c0 (O 201 h13 [.ref 67, .ref 89]) (fun h14 =>
  q_c0 (O 201 h14 [.ref 67, .ref 90]) (fun h15 =>
  q_c0 (O 201 h15 [.ref 67, .ref 91]) (fun h16 =>
  some (h16, none)))))))))))))
  else none := by rfl
-- WhirlShaftsModel.image()I with (67,)
set_option maxRecDepth 20000 in
theorem b203_0 (X : q_X) (O : q_O) (n : Nat) (h : q_S)  : q_go e_203 X O (n + 1) 0 [(0, .ref 67)] [] h =
  q_c0 (O 202 h [.ref 67, .int 1, .int 1]) (fun h1 =>
  q_c0 (O 126 h1 [.ref 67]) (fun h2 =>
  q_go e_203 X O n 20 [(0, .ref 67), (1, .int 0)] [] (q_si h2 67 45 (h2.1 67 0)))) := by rfl
set_option maxRecDepth 20000 in
theorem b203_20 (X : q_X) (O : q_O) (n : Nat) (h : q_S) (x1 : Int32) : q_go e_203 X O (n + 1) 20 [(0, .ref 67), (1, .int x1)] [] h =
  if x1 < (h.1 67 0) then
    q_ix x1 8 (fun j1 =>
    q_ix x1 8 (fun j2 =>
    q_ix x1 8 (fun j3 =>
    q_ix x1 8 (fun j4 =>
    q_ix x1 8 (fun j5 =>
    q_ix x1 8 (fun j6 =>
    q_go e_203 X O n 20 [(0, .ref 67), (1, .int (x1 + 1))] [] (q_si (q_si (q_si h 99 j2 (h.1 74 j1)) 100 j4 (h.1 75 j3)) 101 j6 (h.1 76 j5))))))))
  else
    some (h, some (.int (h.1 67 0))) := by rfl
-- WhirlShaftsModel.alike()I with (67,)
set_option maxRecDepth 20000 in
theorem b204_0 (X : q_X) (O : q_O) (n : Nat) (h : q_S)  : q_go e_204 X O (n + 1) 0 [(0, .ref 67)] [] h =
  if (h.1 67 45) < 0 then
    some (h, some (.int (-5)))
  else
    q_c0 (O 126 h [.ref 67]) (fun h1 =>
    if (h1.1 67 45) = (h1.1 67 0) then
      q_go e_204 X O n 33 [(0, .ref 67), (1, .int 1), (2, .int 0)] [] h1
    else
      q_go e_204 X O n 33 [(0, .ref 67), (1, .int 0), (2, .int 0)] [] h1) := by rfl
set_option maxRecDepth 20000 in
theorem b204_33 (X : q_X) (O : q_O) (n : Nat) (h : q_S) (x1 : Int32) (x2 : Int32) : q_go e_204 X O (n + 1) 33 [(0, .ref 67), (1, .int x1), (2, .int x2)] [] h =
  if x2 < (h.1 67 0) then
    if x1 = 0 then
      if x1 = 0 then
        some (h, some (.int 0))
      else
        some (h, some (.int 1))
    else
      q_ix x2 8 (fun j1 =>
      q_ix x2 8 (fun j2 =>
      if (h.1 99 j1) = (h.1 74 j2) then
        q_ix x2 8 (fun j3 =>
        q_ix x2 8 (fun j4 =>
        if (h.1 100 j3) = (h.1 75 j4) then
          q_ix x2 8 (fun j5 =>
          q_ix x2 8 (fun j6 =>
          if (h.1 101 j5) = (h.1 76 j6) then
            q_go e_204 X O n 33 [(0, .ref 67), (1, .int 1), (2, .int (x2 + 1))] [] h
          else
            q_go e_204 X O n 33 [(0, .ref 67), (1, .int 0), (2, .int (x2 + 1))] [] h))
        else
          q_go e_204 X O n 33 [(0, .ref 67), (1, .int 0), (2, .int (x2 + 1))] [] h))
      else
        q_go e_204 X O n 33 [(0, .ref 67), (1, .int 0), (2, .int (x2 + 1))] [] h))
  else
    if x1 = 0 then
      some (h, some (.int 0))
    else
      some (h, some (.int 1)) := by rfl
-- WhirlShaftsModel.back()I with (67,)
set_option maxRecDepth 20000 in
theorem b205_0 (X : q_X) (O : q_O) (n : Nat) (h : q_S)  : q_go e_205 X O (n + 1) 0 [(0, .ref 67)] [] h =
  if (h.1 67 45) < 0 then
    some (h, some (.int (-5)))
  else
    q_c0 (O 202 h [.ref 67, .int 1, .int 0]) (fun h1 =>
    q_c0 (O 134 h1 [.ref 67]) (fun h2 =>
    some (h2, some (.int (h2.1 67 0))))) := by rfl
-- WhirlShaftsModel.rowsThere()I with (67,)
set_option maxRecDepth 20000 in
theorem b206_0 (X : q_X) (O : q_O) (n : Nat) (h : q_S)  : q_go e_206 X O (n + 1) 0 [(0, .ref 67)] [] h =
  q_go e_206 X O n 4 [(0, .ref 67), (1, .int 0), (2, .int 0)] [] h := by rfl
set_option maxRecDepth 20000 in
theorem b206_4 (X : q_X) (O : q_O) (n : Nat) (h : q_S) (x1 : Int32) (x2 : Int32) : q_go e_206 X O (n + 1) 4 [(0, .ref 67), (1, .int x1), (2, .int x2)] [] h =
  if x2 < 3 then
    q_ix x2 3 (fun j1 =>
    if (h.1 85 j1) < 0 then
      q_go e_206 X O n 4 [(0, .ref 67), (1, .int (x1 + 0)), (2, .int (x2 + 1))] [] h
    else
      q_go e_206 X O n 4 [(0, .ref 67), (1, .int (x1 + 1)), (2, .int (x2 + 1))] [] h)
  else
    some (h, some (.int x1)) := by rfl
-- WhirlShaftsModel.count(I)I with (67, None)
set_option maxRecDepth 20000 in
theorem b207_0 (X : q_X) (O : q_O) (n : Nat) (h : q_S) (x1 : Int32) : q_go e_207 X O (n + 1) 0 [(0, .ref 67), (1, .int x1)] [] h =
  if x1 = 0 then
    some (h, some (.int (h.1 67 0)))
  else if x1 = 1 then
    some (h, some (.int (h.1 67 1)))
  else if x1 = 2 then
    some (h, some (.int (h.1 67 2)))
  else if x1 = 3 then
    q_c1 (O 127 h [.ref 67]) (fun h1 v2 =>
    some (h1, some (.int v2)))
  else if x1 = 4 then
    some (h, some (.int (h.1 67 26)))
  else if x1 = 5 then
    some (h, some (.int (h.1 67 20)))
  else if x1 = 6 then
    some (h, some (.int (h.1 67 21)))
  else if x1 = 7 then
    some (h, some (.int (h.1 67 35)))
  else if x1 = 8 then
    q_c1 (O 206 h [.ref 67]) (fun h3 v4 =>
    some (h3, some (.int v4)))
  else 
    some (h, some (.int (-1))) := by rfl
-- java/lang/Math.max(II)I with (None, None)
set_option maxRecDepth 20000 in
theorem b208_0 (X : q_X) (O : q_O) (n : Nat) (h : q_S) (x0 : Int32) (x1 : Int32) : q_go e_208 X O (n + 1) 0 [(0, .int x0), (1, .int x1)] [] h =
  if x0 < x1 then
    some (h, some (.int x1))
  else
    some (h, some (.int x0)) := by rfl
-- java/lang/Math.floorMod(JJ)J with (None, None)
set_option maxRecDepth 20000 in
theorem b209_0 (X : q_X) (O : q_O) (n : Nat) (h : q_S) (x0 : Int64) (x1 : Int64) : q_go e_209 X O (n + 1) 0 [(0, .long x0), (2, .long x1)] [] h =
  if x1 = 0 then none else
  if (lg_cmp (x0 ^^^ x1) (Int64.ofNat 0)) < 0 then
    if (lg_cmp (x0 - x0 / x1 * x1) (Int64.ofNat 0)) = 0 then
      some (h, some (.long (x0 - x0 / x1 * x1)))
    else
      some (h, some (.long ((x0 - x0 / x1 * x1) + x1)))
  else
    some (h, some (.long (x0 - x0 / x1 * x1))) := by rfl
-- java/lang/Math.max(JJ)J with (None, None)
set_option maxRecDepth 20000 in
theorem b210_0 (X : q_X) (O : q_O) (n : Nat) (h : q_S) (x0 : Int64) (x1 : Int64) : q_go e_210 X O (n + 1) 0 [(0, .long x0), (2, .long x1)] [] h =
  if (lg_cmp x0 x1) < 0 then
    some (h, some (.long x1))
  else
    some (h, some (.long x0)) := by rfl
end
section
def q_nfT : List Nat := [6, 4, 4, 4, 9, 4, 5, 4, 3, 4, 4, 12, 47]
def q_nf (c : Nat) : Nat := (q_nfT[c]?).getD 0
def q_ftT : List (List Nat) := [[1, 1, 1, 1, 0, 0], [1, 0, 0, 0], [1, 0, 0, 0], [1, 0, 0, 0], [1, 1, 1, 1, 1, 1, 0, 0, 0], [1, 1, 1, 0], [0, 1, 1, 1, 1], [1, 0, 0, 0], [1, 0, 0], [1, 0, 0, 0], [1, 0, 0, 1], [1, 2, 1, 1, 1, 0, 1, 1, 1, 1, 1, 1], [0, 0, 0, 1, 1, 1, 1, 1, 1, 1, 1, 1, 1, 1, 1, 1, 1, 1, 1, 1, 0, 0, 1, 1, 1, 1, 0, 1, 1, 1, 1, 1, 1, 1, 1, 0, 0, 0, 1, 0, 1, 1, 1, 1, 0, 0, 0]]
def q_ft (c k : Nat) : Nat := (((q_ftT[c]?).getD [])[k]?).getD 9
/-! ===== what the cells are on the heap ===== -/
def q_cv (ad : Nat → Nat) : Value → Value
  | .ref a => .ref (ad a)
  | v => v
theorem q_cv_cat (ad : Nat → Nat) (v : Value) : (q_cv ad v).category = v.category := by cases v <;> rfl
def q_fv (ad : Nat → Nat) (h : q_S) (i k : Nat) : Value := match q_ft (q_cls i) k with
  | 0 => .int (h.1 i k)
  | 1 => .ref (ad (q_rf i k))
  | _ => q_cv ad (q_rv h.2.2)
def q_cell (ad : Nat → Nat) (cA : Nat → ClassId) (h : q_S) (i : Nat) : va_E := match q_ty i with
  | 0 => .inl (cA 0, q_ln i, .inl (h.1 i))
  | 1 => .inl (cA 1, q_ln i, .inr (.inl (h.2.1 i)))
  | 2 => .inl (cA (q_ak i), q_ln i, .inr (.inr (.inr (.inr (fun k => some (ad (q_rf i k)))))))
  | _ => .inr (q_cls i, (List.range (q_nf (q_cls i))).map (q_fv ad h i))
def q_w (ad : Nat → Nat) (cA : Nat → ClassId) (h : q_S) : va_W := (List.range 102).map (fun i => (ad i, q_cell ad cA h i))
def q_tys (cA : Nat → ClassId) : List (ClassId × FieldType) := [(cA 0, .int), (cA 1, .long), (cA 2, .object "WhirlShafts$Disc"), (cA 3, .object "WhirlShafts$Row"), (cA 4, .array .long)]
theorem q_w_at {ad : Nat → Nat} {cA : Nat → ClassId} {h : q_S} {i : Nat} (hi : i < 102) : (q_w ad cA h)[i]? = some (ad i, q_cell ad cA h i) := by
  simp [q_w, hi]
theorem q_w_set {ad : Nat → Nat} {cA : Nat → ClassId} {h h' : q_S} {i : Nat} {e : va_E} (hi : i < 102) (hc : q_cell ad cA h' i = e) (ho : ∀ j, j < 102 → j ≠ i → q_cell ad cA h' j = q_cell ad cA h j) : (q_w ad cA h).set i (ad i, e) = q_w ad cA h' := by
  apply List.ext_getElem?
  intro j
  by_cases hj : j < 102
  · rw [q_w_at (h := h') hj, List.getElem?_set]
    by_cases e1 : i = j
    · subst e1
      simp [q_w, hi, hc]
    · rw [if_neg e1, q_w_at (h := h) hj, ho j hj (fun q => e1 q.symm)]
  · rw [List.getElem?_eq_none (by simp [q_w]; omega), List.getElem?_eq_none (by simp [q_w]; omega)]
theorem q_D_any {ad : Nat → Nat} {cA : Nat → ClassId} {A : Nat → Prop} {h : q_S} (h' : q_S) (hD : va_D A (q_w ad cA h)) : va_D A (q_w ad cA h') := by
  have key : ∀ (k : Nat) (q : Nat × va_E), (q_w ad cA h')[k]? = some q → (q_w ad cA h)[k]? = some (q.1, q_cell ad cA h k) := by
    intro k q hq
    have hk : k < 102 := by
      have := (List.getElem?_eq_some_iff.mp hq).1
      simpa [q_w] using this
    rw [q_w_at hk] at hq ⊢
    rw [← Option.some.inj hq]
  exact ⟨fun i j p q h1 h2 he => hD.1 i j _ _ (key i p h1) (key j q h2) he, fun k q h1 => hD.2 k (q.1, q_cell ad cA h k) (key k q h1)⟩
theorem q_at2_out {α : Type} {d : α} {T : List (List α)} {i : Nat} (h : 16 * T.length ≤ i) : q_at2 d T i = d := by
  unfold q_at2
  rw [List.getElem?_eq_none (by omega)]
theorem q_ty_out {a : Nat} (h : 102 ≤ a) : q_ty a = 4 ∨ q_ty a = 9 := by
  by_cases h2 : a < 112
  · have : ∀ b, b < 112 → 102 ≤ b → (q_ty b = 4 ∨ q_ty b = 9) := by decide +kernel
    exact this a h2 h
  · right
    exact q_at2_out (by simp; omega)
theorem q_cls_out {a : Nat} (h : 102 ≤ a) : q_cls a = 99 := by
  by_cases h2 : a < 112
  · have : ∀ b, b < 112 → 102 ≤ b → q_cls b = 99 := by decide +kernel
    exact this a h2 h
  · exact q_at2_out (by simp; omega)
theorem q_ty_lt {a n : Nat} (h : q_ty a = n) (h4 : n ≠ 4) (h9 : n ≠ 9) : a < 102 := by
  rcases Nat.lt_or_ge a 102 with q | q
  · exact q
  · rcases q_ty_out q with e | e
    · exact absurd (h.symm.trans e) h4
    · exact absurd (h.symm.trans e) h9
theorem q_cls_obj {a : Nat} (h : q_cls a ≠ 99) : a < 102 ∧ q_ty a = 3 := by
  rcases Nat.lt_or_ge a 102 with q | q
  · have : ∀ b, b < 102 → (q_cls b ≠ 99 → q_ty b = 3) := by decide +kernel
    exact ⟨q, this a q h⟩
  · exact absurd (q_cls_out q) h
theorem q_sub_obj {a D : Nat} (h : q_sub (q_cls a) D = true) : a < 102 ∧ q_ty a = 3 ∧ q_cls a < 13 := by
  have hc : q_cls a < 13 := by
    rcases Nat.lt_or_ge (q_cls a) 13 with q | q
    · exact q
    · unfold q_sub at h
      rw [List.getElem?_eq_none (by simp [q_subT]; omega)] at h
      simp [q_memb] at h
  have := q_cls_obj (a := a) (by omega)
  exact ⟨this.1, this.2, hc⟩
theorem q_cell_obj {ad : Nat → Nat} {cA : Nat → ClassId} {h : q_S} {a : Nat} (ht : q_ty a = 3) : q_cell ad cA h a = .inr (q_cls a, (List.range (q_nf (q_cls a))).map (q_fv ad h a)) := by
  unfold q_cell
  rw [ht]
  rfl
theorem q_cell_i {ad : Nat → Nat} {cA : Nat → ClassId} {h : q_S} {a : Nat} (ht : q_ty a = 0) : q_cell ad cA h a = .inl (cA 0, q_ln a, .inl (h.1 a)) := by
  unfold q_cell
  rw [ht]
  rfl
theorem q_cell_l {ad : Nat → Nat} {cA : Nat → ClassId} {h : q_S} {a : Nat} (ht : q_ty a = 1) : q_cell ad cA h a = .inl (cA 1, q_ln a, .inr (.inl (h.2.1 a))) := by
  unfold q_cell
  rw [ht]
  rfl
theorem q_cell_r {ad : Nat → Nat} {cA : Nat → ClassId} {h : q_S} {a : Nat} (ht : q_ty a = 2) : q_cell ad cA h a = .inl (cA (q_ak a), q_ln a, .inr (.inr (.inr (.inr (fun k => some (ad (q_rf a k))))))) := by
  unfold q_cell
  rw [ht]
  rfl
theorem q_ty_cases (a : Nat) : q_ty a = 0 ∨ q_ty a = 1 ∨ q_ty a = 2 ∨ q_ty a = 3 ∨ q_ty a = 4 ∨ q_ty a = 9 := by
  rcases Nat.lt_or_ge a 102 with q | q
  · have : ∀ b, b < 102 → (q_ty b = 0 ∨ q_ty b = 1 ∨ q_ty b = 2 ∨ q_ty b = 3 ∨ q_ty b = 4 ∨ q_ty b = 9) := by decide +kernel
    exact this a q
  · rcases q_ty_out q with e | e
    · exact Or.inr (Or.inr (Or.inr (Or.inr (Or.inl e))))
    · exact Or.inr (Or.inr (Or.inr (Or.inr (Or.inr e))))
/-- a cell other than the one written stays -/
theorem q_cell_si {ad : Nat → Nat} {cA : Nat → ClassId} {h : q_S} {a i j : Nat} {x : Int32} (hj : j ≠ a) : q_cell ad cA (q_si h a i x) j = q_cell ad cA h j := by
  have e1 : (q_si h a i x).1 j = h.1 j := by funext k; simp [q_si, hj]
  have e2 : q_fv ad (q_si h a i x) j = q_fv ad h j := by
    funext k
    unfold q_fv
    rw [e1]
    rfl
  unfold q_cell
  rw [e1, e2]
  rfl
theorem q_cell_sl {ad : Nat → Nat} {cA : Nat → ClassId} {h : q_S} {a i j : Nat} {x : Int64} (hj : j ≠ a) : q_cell ad cA (q_sl h a i x) j = q_cell ad cA h j := by
  have e1 : (q_sl h a i x).2.1 j = h.2.1 j := by funext k; simp [q_sl, hj]
  unfold q_cell
  rw [e1]
  rfl
theorem q_cell_cpi {ad : Nat → Nat} {cA : Nat → ClassId} {h : q_S} {a sp b dp n j : Nat} (hj : j ≠ b) : q_cell ad cA (q_cpi h a sp b dp n) j = q_cell ad cA h j := by
  have e1 : (q_cpi h a sp b dp n).1 j = h.1 j := by funext k; simp [q_cpi, hj]
  have e2 : q_fv ad (q_cpi h a sp b dp n) j = q_fv ad h j := by
    funext k
    unfold q_fv
    rw [e1]
    rfl
  unfold q_cell
  rw [e1, e2]
  rfl
theorem q_cell_cpl {ad : Nat → Nat} {cA : Nat → ClassId} {h : q_S} {a sp b dp n j : Nat} (hj : j ≠ b) : q_cell ad cA (q_cpl h a sp b dp n) j = q_cell ad cA h j := by
  have e1 : (q_cpl h a sp b dp n).2.1 j = h.2.1 j := by funext k; simp [q_cpl, hj]
  unfold q_cell
  rw [e1]
  rfl
theorem q_range_set {f g : Nat → Value} {N k : Nat} {v : Value} (hk : g k = v) (ho : ∀ j, j < N → j ≠ k → g j = f j) : ((List.range N).map f).set k v = (List.range N).map g := by
  apply List.ext_getElem?
  intro j
  by_cases hj : j < N
  · rw [List.getElem?_set]
    by_cases e : k = j
    · subst e
      simp [hj, hk]
    · rw [if_neg e]
      simp [hj, ho j hj (fun q => e q.symm)]
  · rw [List.getElem?_eq_none (by simp; omega), List.getElem?_eq_none (by simp; omega)]
end
section
/-! ===== classes: names, fields, the words that lay them ===== -/
theorem q_in {w : Cond} (i : Nat) (h : lw_tbl[i]? = some w) (hg : goodWord w = true) : w ∈ q_TW := List.mem_filter.mpr ⟨List.mem_of_getElem? h, hg⟩
def RX0 : String := "WhirlShafts$Changes"
def TX0 : u_T := fun k => match k with
  | 0 => ("WhirlShafts$Changes", "what", "[I", true)
  | 1 => ("WhirlShafts$Changes", "number", "[I", true)
  | 2 => ("WhirlShafts$Changes", "was", "[I", true)
  | 3 => ("WhirlShafts$Changes", "became", "[I", true)
  | 4 => ("WhirlShafts$Changes", "done", "I", false)
  | _ => ("WhirlShafts$Changes", "undone", "I", false)
def tyX0 : Nat → FieldType := fun k => match k with
  | 0 => .array .int
  | 1 => .array .int
  | 2 => .array .int
  | 3 => .array .int
  | 4 => .int
  | _ => .int
theorem nmX0 : ∀ a, a < 6 → ∀ b, b < 6 → a ≠ b → (TX0 a).2.1 ≠ (TX0 b).2.1 := by decide +kernel
theorem tyX0_ok : ∀ k, k < 6 → parseFieldDescriptor (TX0 k).2.2.1 = some (tyX0 k) := by decide +kernel
theorem inX0_0 : u_lay RX0 TX0 0 ∈ q_TW := q_in 215 (by decide +kernel) (by decide +kernel)
theorem inX0_1 : u_lay RX0 TX0 1 ∈ q_TW := q_in 217 (by decide +kernel) (by decide +kernel)
theorem inX0_2 : u_lay RX0 TX0 2 ∈ q_TW := q_in 219 (by decide +kernel) (by decide +kernel)
theorem inX0_3 : u_lay RX0 TX0 3 ∈ q_TW := q_in 221 (by decide +kernel) (by decide +kernel)
theorem inX0_4 : u_lay RX0 TX0 4 ∈ q_TW := q_in 223 (by decide +kernel) (by decide +kernel)
theorem inX0_5 : u_lay RX0 TX0 5 ∈ q_TW := q_in 225 (by decide +kernel) (by decide +kernel)
theorem inX0 : ∀ w ∈ u_ws RX0 TX0 6, w ∈ q_TW := by
  intro w hw
  obtain ⟨k, hk, rfl⟩ := List.mem_map.mp hw
  have hk : k < 6 := List.mem_range.mp hk
  rcases (show k = 0 ∨ k = 1 ∨ k = 2 ∨ k = 3 ∨ k = 4 ∨ k = 5 by omega) with rfl | rfl | rfl | rfl | rfl | rfl
  · exact inX0_0
  · exact inX0_1
  · exact inX0_2
  · exact inX0_3
  · exact inX0_4
  · exact inX0_5
def RX1 : String := "WhirlShafts$Crown"
def TX1 : u_T := fun k => match k with
  | 0 => ("WhirlShafts$Disc", "bodies", "[I", true)
  | 1 => ("WhirlShafts$Disc", "ran", "I", false)
  | 2 => ("WhirlShafts$Disc", "number", "I", false)
  | _ => ("WhirlShafts$Disc", "mass", "I", false)
def tyX1 : Nat → FieldType := fun k => match k with
  | 0 => .array .int
  | 1 => .int
  | 2 => .int
  | _ => .int
theorem nmX1 : ∀ a, a < 4 → ∀ b, b < 4 → a ≠ b → (TX1 a).2.1 ≠ (TX1 b).2.1 := by decide +kernel
theorem tyX1_ok : ∀ k, k < 4 → parseFieldDescriptor (TX1 k).2.2.1 = some (tyX1 k) := by decide +kernel
theorem inX1_0 : u_lay RX1 TX1 0 ∈ q_TW := q_in 121 (by decide +kernel) (by decide +kernel)
theorem inX1_1 : u_lay RX1 TX1 1 ∈ q_TW := q_in 122 (by decide +kernel) (by decide +kernel)
theorem inX1_2 : u_lay RX1 TX1 2 ∈ q_TW := q_in 123 (by decide +kernel) (by decide +kernel)
theorem inX1_3 : u_lay RX1 TX1 3 ∈ q_TW := q_in 124 (by decide +kernel) (by decide +kernel)
theorem inX1 : ∀ w ∈ u_ws RX1 TX1 4, w ∈ q_TW := by
  intro w hw
  obtain ⟨k, hk, rfl⟩ := List.mem_map.mp hw
  have hk : k < 4 := List.mem_range.mp hk
  rcases (show k = 0 ∨ k = 1 ∨ k = 2 ∨ k = 3 by omega) with rfl | rfl | rfl | rfl
  · exact inX1_0
  · exact inX1_1
  · exact inX1_2
  · exact inX1_3
def RX2 : String := "WhirlShafts$Disc"
def TX2 : u_T := fun k => match k with
  | 0 => ("WhirlShafts$Disc", "bodies", "[I", true)
  | 1 => ("WhirlShafts$Disc", "ran", "I", false)
  | 2 => ("WhirlShafts$Disc", "number", "I", false)
  | _ => ("WhirlShafts$Disc", "mass", "I", false)
def tyX2 : Nat → FieldType := fun k => match k with
  | 0 => .array .int
  | 1 => .int
  | 2 => .int
  | _ => .int
theorem nmX2 : ∀ a, a < 4 → ∀ b, b < 4 → a ≠ b → (TX2 a).2.1 ≠ (TX2 b).2.1 := by decide +kernel
theorem tyX2_ok : ∀ k, k < 4 → parseFieldDescriptor (TX2 k).2.2.1 = some (tyX2 k) := by decide +kernel
theorem inX2_0 : u_lay RX2 TX2 0 ∈ q_TW := q_in 83 (by decide +kernel) (by decide +kernel)
theorem inX2_1 : u_lay RX2 TX2 1 ∈ q_TW := q_in 85 (by decide +kernel) (by decide +kernel)
theorem inX2_2 : u_lay RX2 TX2 2 ∈ q_TW := q_in 87 (by decide +kernel) (by decide +kernel)
theorem inX2_3 : u_lay RX2 TX2 3 ∈ q_TW := q_in 89 (by decide +kernel) (by decide +kernel)
theorem inX2 : ∀ w ∈ u_ws RX2 TX2 4, w ∈ q_TW := by
  intro w hw
  obtain ⟨k, hk, rfl⟩ := List.mem_map.mp hw
  have hk : k < 4 := List.mem_range.mp hk
  rcases (show k = 0 ∨ k = 1 ∨ k = 2 ∨ k = 3 by omega) with rfl | rfl | rfl | rfl
  · exact inX2_0
  · exact inX2_1
  · exact inX2_2
  · exact inX2_3
def RX3 : String := "WhirlShafts$Hub"
def TX3 : u_T := fun k => match k with
  | 0 => ("WhirlShafts$Disc", "bodies", "[I", true)
  | 1 => ("WhirlShafts$Disc", "ran", "I", false)
  | 2 => ("WhirlShafts$Disc", "number", "I", false)
  | _ => ("WhirlShafts$Disc", "mass", "I", false)
def tyX3 : Nat → FieldType := fun k => match k with
  | 0 => .array .int
  | 1 => .int
  | 2 => .int
  | _ => .int
theorem nmX3 : ∀ a, a < 4 → ∀ b, b < 4 → a ≠ b → (TX3 a).2.1 ≠ (TX3 b).2.1 := by decide +kernel
theorem tyX3_ok : ∀ k, k < 4 → parseFieldDescriptor (TX3 k).2.2.1 = some (tyX3 k) := by decide +kernel
theorem inX3_0 : u_lay RX3 TX3 0 ∈ q_TW := q_in 110 (by decide +kernel) (by decide +kernel)
theorem inX3_1 : u_lay RX3 TX3 1 ∈ q_TW := q_in 111 (by decide +kernel) (by decide +kernel)
theorem inX3_2 : u_lay RX3 TX3 2 ∈ q_TW := q_in 112 (by decide +kernel) (by decide +kernel)
theorem inX3_3 : u_lay RX3 TX3 3 ∈ q_TW := q_in 113 (by decide +kernel) (by decide +kernel)
theorem inX3 : ∀ w ∈ u_ws RX3 TX3 4, w ∈ q_TW := by
  intro w hw
  obtain ⟨k, hk, rfl⟩ := List.mem_map.mp hw
  have hk : k < 4 := List.mem_range.mp hk
  rcases (show k = 0 ∨ k = 1 ∨ k = 2 ∨ k = 3 by omega) with rfl | rfl | rfl | rfl
  · exact inX3_0
  · exact inX3_1
  · exact inX3_2
  · exact inX3_3
def RX4 : String := "WhirlShafts$Line"
def TX4 : u_T := fun k => match k with
  | 0 => ("WhirlShafts$Line", "kinds", "[LWhirlShafts$Disc;", true)
  | 1 => ("WhirlShafts$Line", "kind", "[I", true)
  | 2 => ("WhirlShafts$Line", "mass", "[I", true)
  | 3 => ("WhirlShafts$Line", "bearing", "[I", true)
  | 4 => ("WhirlShafts$Line", "stiff", "[I", true)
  | 5 => ("WhirlShafts$Line", "ratio", "[I", true)
  | 6 => ("WhirlShafts$Line", "discs", "I", false)
  | 7 => ("WhirlShafts$Line", "spin", "I", false)
  | _ => ("WhirlShafts$Line", "way", "I", false)
def tyX4 : Nat → FieldType := fun k => match k with
  | 0 => .array (.object "WhirlShafts$Disc")
  | 1 => .array .int
  | 2 => .array .int
  | 3 => .array .int
  | 4 => .array .int
  | 5 => .array .int
  | 6 => .int
  | 7 => .int
  | _ => .int
theorem nmX4 : ∀ a, a < 9 → ∀ b, b < 9 → a ≠ b → (TX4 a).2.1 ≠ (TX4 b).2.1 := by decide +kernel
theorem tyX4_ok : ∀ k, k < 9 → parseFieldDescriptor (TX4 k).2.2.1 = some (tyX4 k) := by decide +kernel
theorem inX4_0 : u_lay RX4 TX4 0 ∈ q_TW := q_in 159 (by decide +kernel) (by decide +kernel)
theorem inX4_1 : u_lay RX4 TX4 1 ∈ q_TW := q_in 161 (by decide +kernel) (by decide +kernel)
theorem inX4_2 : u_lay RX4 TX4 2 ∈ q_TW := q_in 163 (by decide +kernel) (by decide +kernel)
theorem inX4_3 : u_lay RX4 TX4 3 ∈ q_TW := q_in 165 (by decide +kernel) (by decide +kernel)
theorem inX4_4 : u_lay RX4 TX4 4 ∈ q_TW := q_in 167 (by decide +kernel) (by decide +kernel)
theorem inX4_5 : u_lay RX4 TX4 5 ∈ q_TW := q_in 169 (by decide +kernel) (by decide +kernel)
theorem inX4_6 : u_lay RX4 TX4 6 ∈ q_TW := q_in 171 (by decide +kernel) (by decide +kernel)
theorem inX4_7 : u_lay RX4 TX4 7 ∈ q_TW := q_in 173 (by decide +kernel) (by decide +kernel)
theorem inX4_8 : u_lay RX4 TX4 8 ∈ q_TW := q_in 175 (by decide +kernel) (by decide +kernel)
theorem inX4 : ∀ w ∈ u_ws RX4 TX4 9, w ∈ q_TW := by
  intro w hw
  obtain ⟨k, hk, rfl⟩ := List.mem_map.mp hw
  have hk : k < 9 := List.mem_range.mp hk
  rcases (show k = 0 ∨ k = 1 ∨ k = 2 ∨ k = 3 ∨ k = 4 ∨ k = 5 ∨ k = 6 ∨ k = 7 ∨ k = 8 by omega) with rfl | rfl | rfl | rfl | rfl | rfl | rfl | rfl | rfl
  · exact inX4_0
  · exact inX4_1
  · exact inX4_2
  · exact inX4_3
  · exact inX4_4
  · exact inX4_5
  · exact inX4_6
  · exact inX4_7
  · exact inX4_8
def RX5 : String := "WhirlShafts$Orders"
def TX5 : u_T := fun k => match k with
  | 0 => ("WhirlShafts$Orders", "what", "[I", true)
  | 1 => ("WhirlShafts$Orders", "number", "[I", true)
  | 2 => ("WhirlShafts$Orders", "v", "[I", true)
  | _ => ("WhirlShafts$Orders", "waiting", "I", false)
def tyX5 : Nat → FieldType := fun k => match k with
  | 0 => .array .int
  | 1 => .array .int
  | 2 => .array .int
  | _ => .int
theorem nmX5 : ∀ a, a < 4 → ∀ b, b < 4 → a ≠ b → (TX5 a).2.1 ≠ (TX5 b).2.1 := by decide +kernel
theorem tyX5_ok : ∀ k, k < 4 → parseFieldDescriptor (TX5 k).2.2.1 = some (tyX5 k) := by decide +kernel
theorem inX5_0 : u_lay RX5 TX5 0 ∈ q_TW := q_in 192 (by decide +kernel) (by decide +kernel)
theorem inX5_1 : u_lay RX5 TX5 1 ∈ q_TW := q_in 194 (by decide +kernel) (by decide +kernel)
theorem inX5_2 : u_lay RX5 TX5 2 ∈ q_TW := q_in 196 (by decide +kernel) (by decide +kernel)
theorem inX5_3 : u_lay RX5 TX5 3 ∈ q_TW := q_in 198 (by decide +kernel) (by decide +kernel)
theorem inX5 : ∀ w ∈ u_ws RX5 TX5 4, w ∈ q_TW := by
  intro w hw
  obtain ⟨k, hk, rfl⟩ := List.mem_map.mp hw
  have hk : k < 4 := List.mem_range.mp hk
  rcases (show k = 0 ∨ k = 1 ∨ k = 2 ∨ k = 3 by omega) with rfl | rfl | rfl | rfl
  · exact inX5_0
  · exact inX5_1
  · exact inX5_2
  · exact inX5_3
def RX6 : String := "WhirlShafts$Rates"
def TX6 : u_T := fun k => match k with
  | 0 => ("WhirlShafts$Rates", "discs", "I", false)
  | 1 => ("WhirlShafts$Rates", "inertia", "[J", true)
  | 2 => ("WhirlShafts$Rates", "holds", "[J", true)
  | 3 => ("WhirlShafts$Rates", "stiff", "[J", true)
  | _ => ("WhirlShafts$Rates", "limbs", "[[J", true)
def tyX6 : Nat → FieldType := fun k => match k with
  | 0 => .int
  | 1 => .array .long
  | 2 => .array .long
  | 3 => .array .long
  | _ => .array (.array .long)
theorem nmX6 : ∀ a, a < 5 → ∀ b, b < 5 → a ≠ b → (TX6 a).2.1 ≠ (TX6 b).2.1 := by decide +kernel
theorem tyX6_ok : ∀ k, k < 5 → parseFieldDescriptor (TX6 k).2.2.1 = some (tyX6 k) := by decide +kernel
theorem inX6_0 : u_lay RX6 TX6 0 ∈ q_TW := q_in 241 (by decide +kernel) (by decide +kernel)
theorem inX6_1 : u_lay RX6 TX6 1 ∈ q_TW := q_in 243 (by decide +kernel) (by decide +kernel)
theorem inX6_2 : u_lay RX6 TX6 2 ∈ q_TW := q_in 245 (by decide +kernel) (by decide +kernel)
theorem inX6_3 : u_lay RX6 TX6 3 ∈ q_TW := q_in 247 (by decide +kernel) (by decide +kernel)
theorem inX6_4 : u_lay RX6 TX6 4 ∈ q_TW := q_in 249 (by decide +kernel) (by decide +kernel)
theorem inX6 : ∀ w ∈ u_ws RX6 TX6 5, w ∈ q_TW := by
  intro w hw
  obtain ⟨k, hk, rfl⟩ := List.mem_map.mp hw
  have hk : k < 5 := List.mem_range.mp hk
  rcases (show k = 0 ∨ k = 1 ∨ k = 2 ∨ k = 3 ∨ k = 4 by omega) with rfl | rfl | rfl | rfl | rfl
  · exact inX6_0
  · exact inX6_1
  · exact inX6_2
  · exact inX6_3
  · exact inX6_4
def RX7 : String := "WhirlShafts$Rim"
def TX7 : u_T := fun k => match k with
  | 0 => ("WhirlShafts$Disc", "bodies", "[I", true)
  | 1 => ("WhirlShafts$Disc", "ran", "I", false)
  | 2 => ("WhirlShafts$Disc", "number", "I", false)
  | _ => ("WhirlShafts$Disc", "mass", "I", false)
def tyX7 : Nat → FieldType := fun k => match k with
  | 0 => .array .int
  | 1 => .int
  | 2 => .int
  | _ => .int
theorem nmX7 : ∀ a, a < 4 → ∀ b, b < 4 → a ≠ b → (TX7 a).2.1 ≠ (TX7 b).2.1 := by decide +kernel
theorem tyX7_ok : ∀ k, k < 4 → parseFieldDescriptor (TX7 k).2.2.1 = some (tyX7 k) := by decide +kernel
theorem inX7_0 : u_lay RX7 TX7 0 ∈ q_TW := q_in 99 (by decide +kernel) (by decide +kernel)
theorem inX7_1 : u_lay RX7 TX7 1 ∈ q_TW := q_in 100 (by decide +kernel) (by decide +kernel)
theorem inX7_2 : u_lay RX7 TX7 2 ∈ q_TW := q_in 101 (by decide +kernel) (by decide +kernel)
theorem inX7_3 : u_lay RX7 TX7 3 ∈ q_TW := q_in 102 (by decide +kernel) (by decide +kernel)
theorem inX7 : ∀ w ∈ u_ws RX7 TX7 4, w ∈ q_TW := by
  intro w hw
  obtain ⟨k, hk, rfl⟩ := List.mem_map.mp hw
  have hk : k < 4 := List.mem_range.mp hk
  rcases (show k = 0 ∨ k = 1 ∨ k = 2 ∨ k = 3 by omega) with rfl | rfl | rfl | rfl
  · exact inX7_0
  · exact inX7_1
  · exact inX7_2
  · exact inX7_3
def RX8 : String := "WhirlShafts$Row"
def TX8 : u_T := fun k => match k with
  | 0 => ("WhirlShafts$Row", "places", "[J", true)
  | 1 => ("WhirlShafts$Row", "sort", "I", false)
  | _ => ("WhirlShafts$Row", "size", "I", false)
def tyX8 : Nat → FieldType := fun k => match k with
  | 0 => .array .long
  | 1 => .int
  | _ => .int
theorem nmX8 : ∀ a, a < 3 → ∀ b, b < 3 → a ≠ b → (TX8 a).2.1 ≠ (TX8 b).2.1 := by decide +kernel
theorem tyX8_ok : ∀ k, k < 3 → parseFieldDescriptor (TX8 k).2.2.1 = some (tyX8 k) := by decide +kernel
theorem inX8_0 : u_lay RX8 TX8 0 ∈ q_TW := q_in 288 (by decide +kernel) (by decide +kernel)
theorem inX8_1 : u_lay RX8 TX8 1 ∈ q_TW := q_in 290 (by decide +kernel) (by decide +kernel)
theorem inX8_2 : u_lay RX8 TX8 2 ∈ q_TW := q_in 292 (by decide +kernel) (by decide +kernel)
theorem inX8 : ∀ w ∈ u_ws RX8 TX8 3, w ∈ q_TW := by
  intro w hw
  obtain ⟨k, hk, rfl⟩ := List.mem_map.mp hw
  have hk : k < 3 := List.mem_range.mp hk
  rcases (show k = 0 ∨ k = 1 ∨ k = 2 by omega) with rfl | rfl | rfl
  · exact inX8_0
  · exact inX8_1
  · exact inX8_2
def RX9 : String := "WhirlShafts$Shell"
def TX9 : u_T := fun k => match k with
  | 0 => ("WhirlShafts$Disc", "bodies", "[I", true)
  | 1 => ("WhirlShafts$Disc", "ran", "I", false)
  | 2 => ("WhirlShafts$Disc", "number", "I", false)
  | _ => ("WhirlShafts$Disc", "mass", "I", false)
def tyX9 : Nat → FieldType := fun k => match k with
  | 0 => .array .int
  | 1 => .int
  | 2 => .int
  | _ => .int
theorem nmX9 : ∀ a, a < 4 → ∀ b, b < 4 → a ≠ b → (TX9 a).2.1 ≠ (TX9 b).2.1 := by decide +kernel
theorem tyX9_ok : ∀ k, k < 4 → parseFieldDescriptor (TX9 k).2.2.1 = some (tyX9 k) := by decide +kernel
theorem inX9_0 : u_lay RX9 TX9 0 ∈ q_TW := q_in 132 (by decide +kernel) (by decide +kernel)
theorem inX9_1 : u_lay RX9 TX9 1 ∈ q_TW := q_in 133 (by decide +kernel) (by decide +kernel)
theorem inX9_2 : u_lay RX9 TX9 2 ∈ q_TW := q_in 134 (by decide +kernel) (by decide +kernel)
theorem inX9_3 : u_lay RX9 TX9 3 ∈ q_TW := q_in 135 (by decide +kernel) (by decide +kernel)
theorem inX9 : ∀ w ∈ u_ws RX9 TX9 4, w ∈ q_TW := by
  intro w hw
  obtain ⟨k, hk, rfl⟩ := List.mem_map.mp hw
  have hk : k < 4 := List.mem_range.mp hk
  rcases (show k = 0 ∨ k = 1 ∨ k = 2 ∨ k = 3 by omega) with rfl | rfl | rfl | rfl
  · exact inX9_0
  · exact inX9_1
  · exact inX9_2
  · exact inX9_3
def RX10 : String := "WhirlShafts$Tape"
def TX10 : u_T := fun k => match k with
  | 0 => ("WhirlShafts$Tape", "bytes", "[I", true)
  | 1 => ("WhirlShafts$Tape", "length", "I", false)
  | 2 => ("WhirlShafts$Tape", "at", "I", false)
  | _ => ("WhirlShafts$Tape", "numbers", "[I", true)
def tyX10 : Nat → FieldType := fun k => match k with
  | 0 => .array .int
  | 1 => .int
  | 2 => .int
  | _ => .array .int
theorem nmX10 : ∀ a, a < 4 → ∀ b, b < 4 → a ≠ b → (TX10 a).2.1 ≠ (TX10 b).2.1 := by decide +kernel
theorem tyX10_ok : ∀ k, k < 4 → parseFieldDescriptor (TX10 k).2.2.1 = some (tyX10 k) := by decide +kernel
theorem inX10_0 : u_lay RX10 TX10 0 ∈ q_TW := q_in 266 (by decide +kernel) (by decide +kernel)
theorem inX10_1 : u_lay RX10 TX10 1 ∈ q_TW := q_in 268 (by decide +kernel) (by decide +kernel)
theorem inX10_2 : u_lay RX10 TX10 2 ∈ q_TW := q_in 270 (by decide +kernel) (by decide +kernel)
theorem inX10_3 : u_lay RX10 TX10 3 ∈ q_TW := q_in 272 (by decide +kernel) (by decide +kernel)
theorem inX10 : ∀ w ∈ u_ws RX10 TX10 4, w ∈ q_TW := by
  intro w hw
  obtain ⟨k, hk, rfl⟩ := List.mem_map.mp hw
  have hk : k < 4 := List.mem_range.mp hk
  rcases (show k = 0 ∨ k = 1 ∨ k = 2 ∨ k = 3 by omega) with rfl | rfl | rfl | rfl
  · exact inX10_0
  · exact inX10_1
  · exact inX10_2
  · exact inX10_3
def RX11 : String := "WhirlShafts"
def TX11 : u_T := fun k => match k with
  | 0 => ("WhirlShafts", "kinds", "[LWhirlShafts$Disc;", true)
  | 1 => ("WhirlShafts", "latest", "LWhirlShafts$Disc;", false)
  | 2 => ("WhirlShafts", "line", "LWhirlShafts$Line;", true)
  | 3 => ("WhirlShafts", "trial", "LWhirlShafts$Line;", true)
  | 4 => ("WhirlShafts", "image", "LWhirlShafts$Line;", true)
  | 5 => ("WhirlShafts", "imaged", "Z", false)
  | 6 => ("WhirlShafts", "orders", "LWhirlShafts$Orders;", true)
  | 7 => ("WhirlShafts", "imageOrders", "LWhirlShafts$Orders;", true)
  | 8 => ("WhirlShafts", "changes", "LWhirlShafts$Changes;", true)
  | 9 => ("WhirlShafts", "rates", "LWhirlShafts$Rates;", true)
  | 10 => ("WhirlShafts", "tape", "LWhirlShafts$Tape;", true)
  | _ => ("WhirlShafts", "rows", "[LWhirlShafts$Row;", true)
def tyX11 : Nat → FieldType := fun k => match k with
  | 0 => .array (.object "WhirlShafts$Disc")
  | 1 => .object "WhirlShafts$Disc"
  | 2 => .object "WhirlShafts$Line"
  | 3 => .object "WhirlShafts$Line"
  | 4 => .object "WhirlShafts$Line"
  | 5 => .boolean
  | 6 => .object "WhirlShafts$Orders"
  | 7 => .object "WhirlShafts$Orders"
  | 8 => .object "WhirlShafts$Changes"
  | 9 => .object "WhirlShafts$Rates"
  | 10 => .object "WhirlShafts$Tape"
  | _ => .array (.object "WhirlShafts$Row")
theorem nmX11 : ∀ a, a < 12 → ∀ b, b < 12 → a ≠ b → (TX11 a).2.1 ≠ (TX11 b).2.1 := by decide +kernel
theorem tyX11_ok : ∀ k, k < 12 → parseFieldDescriptor (TX11 k).2.2.1 = some (tyX11 k) := by decide +kernel
theorem inX11_0 : u_lay RX11 TX11 0 ∈ q_TW := q_in 307 (by decide +kernel) (by decide +kernel)
theorem inX11_1 : u_lay RX11 TX11 1 ∈ q_TW := q_in 309 (by decide +kernel) (by decide +kernel)
theorem inX11_2 : u_lay RX11 TX11 2 ∈ q_TW := q_in 311 (by decide +kernel) (by decide +kernel)
theorem inX11_3 : u_lay RX11 TX11 3 ∈ q_TW := q_in 313 (by decide +kernel) (by decide +kernel)
theorem inX11_4 : u_lay RX11 TX11 4 ∈ q_TW := q_in 315 (by decide +kernel) (by decide +kernel)
theorem inX11_5 : u_lay RX11 TX11 5 ∈ q_TW := q_in 317 (by decide +kernel) (by decide +kernel)
theorem inX11_6 : u_lay RX11 TX11 6 ∈ q_TW := q_in 319 (by decide +kernel) (by decide +kernel)
theorem inX11_7 : u_lay RX11 TX11 7 ∈ q_TW := q_in 321 (by decide +kernel) (by decide +kernel)
theorem inX11_8 : u_lay RX11 TX11 8 ∈ q_TW := q_in 323 (by decide +kernel) (by decide +kernel)
theorem inX11_9 : u_lay RX11 TX11 9 ∈ q_TW := q_in 325 (by decide +kernel) (by decide +kernel)
theorem inX11_10 : u_lay RX11 TX11 10 ∈ q_TW := q_in 327 (by decide +kernel) (by decide +kernel)
theorem inX11_11 : u_lay RX11 TX11 11 ∈ q_TW := q_in 329 (by decide +kernel) (by decide +kernel)
theorem inX11 : ∀ w ∈ u_ws RX11 TX11 12, w ∈ q_TW := by
  intro w hw
  obtain ⟨k, hk, rfl⟩ := List.mem_map.mp hw
  have hk : k < 12 := List.mem_range.mp hk
  rcases (show k = 0 ∨ k = 1 ∨ k = 2 ∨ k = 3 ∨ k = 4 ∨ k = 5 ∨ k = 6 ∨ k = 7 ∨ k = 8 ∨ k = 9 ∨ k = 10 ∨ k = 11 by omega) with rfl | rfl | rfl | rfl | rfl | rfl | rfl | rfl | rfl | rfl | rfl | rfl
  · exact inX11_0
  · exact inX11_1
  · exact inX11_2
  · exact inX11_3
  · exact inX11_4
  · exact inX11_5
  · exact inX11_6
  · exact inX11_7
  · exact inX11_8
  · exact inX11_9
  · exact inX11_10
  · exact inX11_11
def RX12 : String := "WhirlShaftsModel"
def TX12 : u_T := fun k => match k with
  | 0 => ("WhirlShaftsModel", "discs", "I", false)
  | 1 => ("WhirlShaftsModel", "spin", "I", false)
  | 2 => ("WhirlShaftsModel", "way", "I", false)
  | 3 => ("WhirlShaftsModel", "kind", "[I", true)
  | 4 => ("WhirlShaftsModel", "mass", "[I", true)
  | 5 => ("WhirlShaftsModel", "bearing", "[I", true)
  | 6 => ("WhirlShaftsModel", "stiff", "[I", true)
  | 7 => ("WhirlShaftsModel", "ratio", "[I", true)
  | 8 => ("WhirlShaftsModel", "factor", "[I", true)
  | 9 => ("WhirlShaftsModel", "inertia", "[I", true)
  | 10 => ("WhirlShaftsModel", "bears", "[I", true)
  | 11 => ("WhirlShaftsModel", "stiffs", "[I", true)
  | 12 => ("WhirlShaftsModel", "holds", "[I", true)
  | 13 => ("WhirlShaftsModel", "digits", "[J", true)
  | 14 => ("WhirlShaftsModel", "signs", "[I", true)
  | 15 => ("WhirlShaftsModel", "rests", "[I", true)
  | 16 => ("WhirlShaftsModel", "changeWhat", "[I", true)
  | 17 => ("WhirlShaftsModel", "changeNumber", "[I", true)
  | 18 => ("WhirlShaftsModel", "changeWas", "[I", true)
  | 19 => ("WhirlShaftsModel", "changeNow", "[I", true)
  | 20 => ("WhirlShaftsModel", "undos", "I", false)
  | 21 => ("WhirlShaftsModel", "redos", "I", false)
  | 22 => ("WhirlShaftsModel", "sorts", "[I", true)
  | 23 => ("WhirlShaftsModel", "sizes", "[I", true)
  | 24 => ("WhirlShaftsModel", "items", "[J", true)
  | 25 => ("WhirlShaftsModel", "moved", "[J", true)
  | 26 => ("WhirlShaftsModel", "orders", "I", false)
  | 27 => ("WhirlShaftsModel", "orderWhat", "[I", true)
  | 28 => ("WhirlShaftsModel", "orderNumber", "[I", true)
  | 29 => ("WhirlShaftsModel", "orderV", "[I", true)
  | 30 => ("WhirlShaftsModel", "tape", "[I", true)
  | 31 => ("WhirlShaftsModel", "letter", "[I", true)
  | 32 => ("WhirlShaftsModel", "first", "[I", true)
  | 33 => ("WhirlShaftsModel", "second", "[I", true)
  | 34 => ("WhirlShaftsModel", "third", "[I", true)
  | 35 => ("WhirlShaftsModel", "taped", "I", false)
  | 36 => ("WhirlShaftsModel", "at", "I", false)
  | 37 => ("WhirlShaftsModel", "acts", "I", false)
  | 38 => ("WhirlShaftsModel", "traced", "[I", true)
  | 39 => ("WhirlShaftsModel", "ran", "I", false)
  | 40 => ("WhirlShaftsModel", "kept", "[I", true)
  | 41 => ("WhirlShaftsModel", "imageInertia", "[I", true)
  | 42 => ("WhirlShaftsModel", "imageBears", "[I", true)
  | 43 => ("WhirlShaftsModel", "imageStiffs", "[I", true)
  | 44 => ("WhirlShaftsModel", "cursor", "I", false)
  | 45 => ("WhirlShaftsModel", "imageDiscs", "I", false)
  | _ => ("WhirlShaftsModel", "isKeeping", "Z", false)
def tyX12 : Nat → FieldType := fun k => match k with
  | 0 => .int
  | 1 => .int
  | 2 => .int
  | 3 => .array .int
  | 4 => .array .int
  | 5 => .array .int
  | 6 => .array .int
  | 7 => .array .int
  | 8 => .array .int
  | 9 => .array .int
  | 10 => .array .int
  | 11 => .array .int
  | 12 => .array .int
  | 13 => .array .long
  | 14 => .array .int
  | 15 => .array .int
  | 16 => .array .int
  | 17 => .array .int
  | 18 => .array .int
  | 19 => .array .int
  | 20 => .int
  | 21 => .int
  | 22 => .array .int
  | 23 => .array .int
  | 24 => .array .long
  | 25 => .array .long
  | 26 => .int
  | 27 => .array .int
  | 28 => .array .int
  | 29 => .array .int
  | 30 => .array .int
  | 31 => .array .int
  | 32 => .array .int
  | 33 => .array .int
  | 34 => .array .int
  | 35 => .int
  | 36 => .int
  | 37 => .int
  | 38 => .array .int
  | 39 => .int
  | 40 => .array .int
  | 41 => .array .int
  | 42 => .array .int
  | 43 => .array .int
  | 44 => .int
  | 45 => .int
  | _ => .boolean
theorem nmX12 : ∀ a, a < 47 → ∀ b, b < 47 → a ≠ b → (TX12 a).2.1 ≠ (TX12 b).2.1 := by decide +kernel
theorem tyX12_ok : ∀ k, k < 47 → parseFieldDescriptor (TX12 k).2.2.1 = some (tyX12 k) := by decide +kernel
theorem inX12_0 : u_lay RX12 TX12 0 ∈ q_TW := q_in 941 (by decide +kernel) (by decide +kernel)
theorem inX12_1 : u_lay RX12 TX12 1 ∈ q_TW := q_in 943 (by decide +kernel) (by decide +kernel)
theorem inX12_2 : u_lay RX12 TX12 2 ∈ q_TW := q_in 945 (by decide +kernel) (by decide +kernel)
theorem inX12_3 : u_lay RX12 TX12 3 ∈ q_TW := q_in 947 (by decide +kernel) (by decide +kernel)
theorem inX12_4 : u_lay RX12 TX12 4 ∈ q_TW := q_in 949 (by decide +kernel) (by decide +kernel)
theorem inX12_5 : u_lay RX12 TX12 5 ∈ q_TW := q_in 951 (by decide +kernel) (by decide +kernel)
theorem inX12_6 : u_lay RX12 TX12 6 ∈ q_TW := q_in 953 (by decide +kernel) (by decide +kernel)
theorem inX12_7 : u_lay RX12 TX12 7 ∈ q_TW := q_in 955 (by decide +kernel) (by decide +kernel)
theorem inX12_8 : u_lay RX12 TX12 8 ∈ q_TW := q_in 957 (by decide +kernel) (by decide +kernel)
theorem inX12_9 : u_lay RX12 TX12 9 ∈ q_TW := q_in 959 (by decide +kernel) (by decide +kernel)
theorem inX12_10 : u_lay RX12 TX12 10 ∈ q_TW := q_in 961 (by decide +kernel) (by decide +kernel)
theorem inX12_11 : u_lay RX12 TX12 11 ∈ q_TW := q_in 963 (by decide +kernel) (by decide +kernel)
theorem inX12_12 : u_lay RX12 TX12 12 ∈ q_TW := q_in 965 (by decide +kernel) (by decide +kernel)
theorem inX12_13 : u_lay RX12 TX12 13 ∈ q_TW := q_in 967 (by decide +kernel) (by decide +kernel)
theorem inX12_14 : u_lay RX12 TX12 14 ∈ q_TW := q_in 969 (by decide +kernel) (by decide +kernel)
theorem inX12_15 : u_lay RX12 TX12 15 ∈ q_TW := q_in 971 (by decide +kernel) (by decide +kernel)
theorem inX12_16 : u_lay RX12 TX12 16 ∈ q_TW := q_in 973 (by decide +kernel) (by decide +kernel)
theorem inX12_17 : u_lay RX12 TX12 17 ∈ q_TW := q_in 975 (by decide +kernel) (by decide +kernel)
theorem inX12_18 : u_lay RX12 TX12 18 ∈ q_TW := q_in 977 (by decide +kernel) (by decide +kernel)
theorem inX12_19 : u_lay RX12 TX12 19 ∈ q_TW := q_in 979 (by decide +kernel) (by decide +kernel)
theorem inX12_20 : u_lay RX12 TX12 20 ∈ q_TW := q_in 981 (by decide +kernel) (by decide +kernel)
theorem inX12_21 : u_lay RX12 TX12 21 ∈ q_TW := q_in 983 (by decide +kernel) (by decide +kernel)
theorem inX12_22 : u_lay RX12 TX12 22 ∈ q_TW := q_in 985 (by decide +kernel) (by decide +kernel)
theorem inX12_23 : u_lay RX12 TX12 23 ∈ q_TW := q_in 987 (by decide +kernel) (by decide +kernel)
theorem inX12_24 : u_lay RX12 TX12 24 ∈ q_TW := q_in 989 (by decide +kernel) (by decide +kernel)
theorem inX12_25 : u_lay RX12 TX12 25 ∈ q_TW := q_in 991 (by decide +kernel) (by decide +kernel)
theorem inX12_26 : u_lay RX12 TX12 26 ∈ q_TW := q_in 993 (by decide +kernel) (by decide +kernel)
theorem inX12_27 : u_lay RX12 TX12 27 ∈ q_TW := q_in 995 (by decide +kernel) (by decide +kernel)
theorem inX12_28 : u_lay RX12 TX12 28 ∈ q_TW := q_in 997 (by decide +kernel) (by decide +kernel)
theorem inX12_29 : u_lay RX12 TX12 29 ∈ q_TW := q_in 999 (by decide +kernel) (by decide +kernel)
theorem inX12_30 : u_lay RX12 TX12 30 ∈ q_TW := q_in 1001 (by decide +kernel) (by decide +kernel)
theorem inX12_31 : u_lay RX12 TX12 31 ∈ q_TW := q_in 1003 (by decide +kernel) (by decide +kernel)
theorem inX12_32 : u_lay RX12 TX12 32 ∈ q_TW := q_in 1005 (by decide +kernel) (by decide +kernel)
theorem inX12_33 : u_lay RX12 TX12 33 ∈ q_TW := q_in 1007 (by decide +kernel) (by decide +kernel)
theorem inX12_34 : u_lay RX12 TX12 34 ∈ q_TW := q_in 1009 (by decide +kernel) (by decide +kernel)
theorem inX12_35 : u_lay RX12 TX12 35 ∈ q_TW := q_in 1011 (by decide +kernel) (by decide +kernel)
theorem inX12_36 : u_lay RX12 TX12 36 ∈ q_TW := q_in 1013 (by decide +kernel) (by decide +kernel)
theorem inX12_37 : u_lay RX12 TX12 37 ∈ q_TW := q_in 1015 (by decide +kernel) (by decide +kernel)
theorem inX12_38 : u_lay RX12 TX12 38 ∈ q_TW := q_in 1017 (by decide +kernel) (by decide +kernel)
theorem inX12_39 : u_lay RX12 TX12 39 ∈ q_TW := q_in 1019 (by decide +kernel) (by decide +kernel)
theorem inX12_40 : u_lay RX12 TX12 40 ∈ q_TW := q_in 1021 (by decide +kernel) (by decide +kernel)
theorem inX12_41 : u_lay RX12 TX12 41 ∈ q_TW := q_in 1023 (by decide +kernel) (by decide +kernel)
theorem inX12_42 : u_lay RX12 TX12 42 ∈ q_TW := q_in 1025 (by decide +kernel) (by decide +kernel)
theorem inX12_43 : u_lay RX12 TX12 43 ∈ q_TW := q_in 1027 (by decide +kernel) (by decide +kernel)
theorem inX12_44 : u_lay RX12 TX12 44 ∈ q_TW := q_in 1029 (by decide +kernel) (by decide +kernel)
theorem inX12_45 : u_lay RX12 TX12 45 ∈ q_TW := q_in 1031 (by decide +kernel) (by decide +kernel)
theorem inX12_46 : u_lay RX12 TX12 46 ∈ q_TW := q_in 1033 (by decide +kernel) (by decide +kernel)
theorem inX12 : ∀ w ∈ u_ws RX12 TX12 47, w ∈ q_TW := by
  intro w hw
  obtain ⟨k, hk, rfl⟩ := List.mem_map.mp hw
  have hk : k < 47 := List.mem_range.mp hk
  rcases (show k = 0 ∨ k = 1 ∨ k = 2 ∨ k = 3 ∨ k = 4 ∨ k = 5 ∨ k = 6 ∨ k = 7 ∨ k = 8 ∨ k = 9 ∨ k = 10 ∨ k = 11 ∨ k = 12 ∨ k = 13 ∨ k = 14 ∨ k = 15 ∨ k = 16 ∨ k = 17 ∨ k = 18 ∨ k = 19 ∨ k = 20 ∨ k = 21 ∨ k = 22 ∨ k = 23 ∨ k = 24 ∨ k = 25 ∨ k = 26 ∨ k = 27 ∨ k = 28 ∨ k = 29 ∨ k = 30 ∨ k = 31 ∨ k = 32 ∨ k = 33 ∨ k = 34 ∨ k = 35 ∨ k = 36 ∨ k = 37 ∨ k = 38 ∨ k = 39 ∨ k = 40 ∨ k = 41 ∨ k = 42 ∨ k = 43 ∨ k = 44 ∨ k = 45 ∨ k = 46 by omega) with rfl | rfl | rfl | rfl | rfl | rfl | rfl | rfl | rfl | rfl | rfl | rfl | rfl | rfl | rfl | rfl | rfl | rfl | rfl | rfl | rfl | rfl | rfl | rfl | rfl | rfl | rfl | rfl | rfl | rfl | rfl | rfl | rfl | rfl | rfl | rfl | rfl | rfl | rfl | rfl | rfl | rfl | rfl | rfl | rfl | rfl | rfl
  · exact inX12_0
  · exact inX12_1
  · exact inX12_2
  · exact inX12_3
  · exact inX12_4
  · exact inX12_5
  · exact inX12_6
  · exact inX12_7
  · exact inX12_8
  · exact inX12_9
  · exact inX12_10
  · exact inX12_11
  · exact inX12_12
  · exact inX12_13
  · exact inX12_14
  · exact inX12_15
  · exact inX12_16
  · exact inX12_17
  · exact inX12_18
  · exact inX12_19
  · exact inX12_20
  · exact inX12_21
  · exact inX12_22
  · exact inX12_23
  · exact inX12_24
  · exact inX12_25
  · exact inX12_26
  · exact inX12_27
  · exact inX12_28
  · exact inX12_29
  · exact inX12_30
  · exact inX12_31
  · exact inX12_32
  · exact inX12_33
  · exact inX12_34
  · exact inX12_35
  · exact inX12_36
  · exact inX12_37
  · exact inX12_38
  · exact inX12_39
  · exact inX12_40
  · exact inX12_41
  · exact inX12_42
  · exact inX12_43
  · exact inX12_44
  · exact inX12_45
  · exact inX12_46
abbrev q_cn : List vw_C := [(RX0, TX0, 6), (RX1, TX1, 4), (RX2, TX2, 4), (RX3, TX3, 4), (RX4, TX4, 9), (RX5, TX5, 4), (RX6, TX6, 5), (RX7, TX7, 4), (RX8, TX8, 3), (RX9, TX9, 4), (RX10, TX10, 4), (RX11, TX11, 12), (RX12, TX12, 47)]
theorem q_cn_ok (c : Nat) (hc : c < 13) : ∃ (C : String) (T : u_T) (ty0 : Nat → FieldType), q_cn[c]? = some (C, T, q_nf c) ∧ (∀ w ∈ u_ws C T (q_nf c), w ∈ q_TW) ∧ (∀ k, k < q_nf c → parseFieldDescriptor (T k).2.2.1 = some (ty0 k)) ∧ (∀ a, a < q_nf c → ∀ b, b < q_nf c → a ≠ b → (T a).2.1 ≠ (T b).2.1) := by
  rcases (show c = 0 ∨ c = 1 ∨ c = 2 ∨ c = 3 ∨ c = 4 ∨ c = 5 ∨ c = 6 ∨ c = 7 ∨ c = 8 ∨ c = 9 ∨ c = 10 ∨ c = 11 ∨ c = 12 by omega) with rfl | rfl | rfl | rfl | rfl | rfl | rfl | rfl | rfl | rfl | rfl | rfl | rfl
  · exact ⟨RX0, TX0, tyX0, rfl, inX0, tyX0_ok, nmX0⟩
  · exact ⟨RX1, TX1, tyX1, rfl, inX1, tyX1_ok, nmX1⟩
  · exact ⟨RX2, TX2, tyX2, rfl, inX2, tyX2_ok, nmX2⟩
  · exact ⟨RX3, TX3, tyX3, rfl, inX3, tyX3_ok, nmX3⟩
  · exact ⟨RX4, TX4, tyX4, rfl, inX4, tyX4_ok, nmX4⟩
  · exact ⟨RX5, TX5, tyX5, rfl, inX5, tyX5_ok, nmX5⟩
  · exact ⟨RX6, TX6, tyX6, rfl, inX6, tyX6_ok, nmX6⟩
  · exact ⟨RX7, TX7, tyX7, rfl, inX7, tyX7_ok, nmX7⟩
  · exact ⟨RX8, TX8, tyX8, rfl, inX8, tyX8_ok, nmX8⟩
  · exact ⟨RX9, TX9, tyX9, rfl, inX9, tyX9_ok, nmX9⟩
  · exact ⟨RX10, TX10, tyX10, rfl, inX10, tyX10_ok, nmX10⟩
  · exact ⟨RX11, TX11, tyX11, rfl, inX11, tyX11_ok, nmX11⟩
  · exact ⟨RX12, TX12, tyX12, rfl, inX12, tyX12_ok, nmX12⟩
end
section
/-! ===== the small machine is the machine: instruction by instruction ===== -/
def q_ml (ad : Nat → Nat) (L : q_L) : List (Nat × Value) := L.map (fun q => (q.1, q_cv ad q.2))
def q_X0 : q_X := fun a => if a = 102 then some (5, fun j => (([-1, 0, 0, 1, 2] : List Int32)[j]?).getD 0) else if a = 103 then some (6, fun j => (([1, 1, 0, 1, 0, 0] : List Int32)[j]?).getD 0) else if a = 104 then some (6, fun j => (([99, 99, 99, 6, 9, 2] : List Int32)[j]?).getD 0) else none
def q_inR : MethodName := ⟨"WhirlShafts", "inRange", "(II)Z"⟩
/-- what holds of the tables and of what isn't ours -/
def q_Wd (D : va_G) (cA : Nat → ClassId) (ad : Nat → Nat) (A : Nat → Prop) (U : State) : Prop :=
  va_K D q_cn (q_tys cA) U ∧ va_Z "WhirlShafts" "ABOVE" "[I" (.ref (ad 102)) A U U.heap ∧ va_Z "WhirlShafts" "LEAST" "[I" (.ref (ad 103)) A U U.heap ∧ va_Z "WhirlShafts" "MOST" "[I" (.ref (ad 104)) A U U.heap ∧
  (∀ (a n : Nat) (f : Nat → Int32), q_X0 a = some (n, f) → va_T .int (ad a) n (fun j => .int (f j)) A U U.heap) ∧ va_Nw (.methodLinkNest "WhirlShafts$Line" 58 q_inR "WhirlShafts") U
def q_Cx (p : Program) (l : Launch) (R : Room) (s : State) (m : MethodId) (args : Array Value) (c : Code) (D : va_G) (cA : Nat → ClassId) (ad : Nat → Nat) (A : Nat → Prop) (X : q_X) (cc : ByteArray) (own : String) (nL : Nat) : Prop :=
  p.tables.exec = Jvm.exec ∧ c.code = cc ∧ c.maxLocals = nL ∧ s.vm.findClass own = some m.cls ∧ (∀ w ∈ q_TW, w.before args s = true) ∧ (∀ h, va_D A (q_w ad cA h)) ∧ (∀ q, s.heap.size ≤ q → A q) ∧ q_Wd D cA ad A s ∧ (∀ (a n : Nat) (f : Nat → Int32), X a = some (n, f) → va_T .int (ad a) n (fun j => .int (f j)) A s s.heap)
def q_Psi (p : Program) (l : Launch) (e : Env) (R : Room) (s : State) (m : MethodId) (args : Array Value) (below : List Frame) (meth : Method) (c : Code) (cells slots : Nat) (Q : State → Prop) (D : va_G) (cA : Nat → ClassId) (ad : Nat → Nat) (A : Nat → Prop) (nL : Nat) (pc : Nat) (L : q_L) (st : List Value) (h : q_S) : Prop :=
  ∀ (H : Heap) (locs : List Loc) (ls : Array Slot), va_P D q_cn (q_w ad cA h) H → va_S A s.heap H locs → lv_has ls nL (q_ml ad L) → W p l e R s m args below meth c H locs cells slots Q (F0 m pc ls (st.map (q_cv ad)))
theorem q_lk_mem {i : Nat} {v : Value} : ∀ {L : q_L}, q_lk i L = some v → (i, v) ∈ L
  | [], h => by simp [q_lk] at h
  | q :: t, h => by
    unfold q_lk at h
    cases hb : Nat.beq q.1 i with
    | true =>
      rw [hb] at h
      have e1 : q.1 = i := Nat.eq_of_beq_eq_true hb
      have e2 : q.2 = v := Option.some.inj h
      have : q = (i, v) := by cases q; simp_all
      rw [this]
      exact List.mem_cons_self
    | false =>
      rw [hb] at h
      exact List.mem_cons_of_mem _ (q_lk_mem h)
theorem q_lk_ls {ad : Nat → Nat} {ls : Array Slot} {nL i : Nat} {L : q_L} {v : Value} (hl : lv_has ls nL (q_ml ad L)) (h : q_lk i L = some v) : ls[i]? = some (.val (q_cv ad v)) := hl.2.2 (i, q_cv ad v) (List.mem_map.mpr ⟨(i, v), q_lk_mem h, rfl⟩)
theorem q_ml_st1 (ad : Nat → Nat) (L : q_L) (i : Nat) (v : Value) : (i, q_cv ad v) :: (q_ml ad L).filter (fun q => !(q.1 == i) && !(q.1 + 1 == i && q.2.category == 2)) = q_ml ad (q_st1 L i v) := by
  unfold q_ml q_st1
  rw [List.map_cons, List.filter_map]
  congr 2
  refine List.filter_congr fun q _ => ?_
  simp only [Function.comp, q_cv_cat]
theorem q_ml_st2 (ad : Nat → Nat) (L : q_L) (i : Nat) (v : Value) : (i, q_cv ad v) :: (q_ml ad L).filter (fun q => !(q.1 == i) && (!(q.1 == i + 1) && !(q.1 + 1 == i && q.2.category == 2))) = q_ml ad (q_st2 L i v) := by
  unfold q_ml q_st2
  rw [List.map_cons, List.filter_map]
  congr 2
  refine List.filter_congr fun q _ => ?_
  simp only [Function.comp, q_cv_cat]
theorem q_nrm_mem {q : Nat × Value} : ∀ {ks : List Nat} {L : q_L}, q ∈ q_nrm ks L → q ∈ L
  | [], L, h => by simp [q_nrm] at h
  | i :: r, L, h => by
    unfold q_nrm at h
    cases hb : q_lk i L with
    | none =>
      rw [hb] at h
      exact q_nrm_mem h
    | some v =>
      rw [hb] at h
      rcases List.mem_cons.mp h with e | e
      · rw [e]
        exact q_lk_mem hb
      · exact q_nrm_mem e
theorem q_nrm_ls {ad : Nat → Nat} {ls : Array Slot} {nL : Nat} {L : q_L} {ks : List Nat} (hl : lv_has ls nL (q_ml ad L)) : lv_has ls nL (q_ml ad (q_nrm ks L)) := by
  refine ⟨hl.1, hl.2.1, fun q hq => ?_⟩
  obtain ⟨x, hx, rfl⟩ := List.mem_map.mp hq
  exact hl.2.2 _ (List.mem_map.mpr ⟨x, q_nrm_mem hx, rfl⟩)
-- what a combinator says when it answers
theorem q_i_inv {st : List Value} {f : Int32 → List Value → q_A} {r : q_S × Option Value} (h : q_i st f = some r) : ∃ x t, st = .int x :: t ∧ f x t = some r := by
  unfold q_i at h
  split at h
  · exact ⟨_, _, rfl, h⟩
  · cases h
theorem q_ii_inv {st : List Value} {f : Int32 → Int32 → List Value → q_A} {r : q_S × Option Value} (h : q_ii st f = some r) : ∃ x y t, st = .int y :: .int x :: t ∧ f x y t = some r := by
  unfold q_ii at h
  split at h
  · exact ⟨_, _, _, rfl, h⟩
  · cases h
theorem q_l_inv {st : List Value} {f : Int64 → List Value → q_A} {r : q_S × Option Value} (h : q_l st f = some r) : ∃ x t, st = .long x :: t ∧ f x t = some r := by
  unfold q_l at h
  split at h
  · exact ⟨_, _, rfl, h⟩
  · cases h
theorem q_ll_inv {st : List Value} {f : Int64 → Int64 → List Value → q_A} {r : q_S × Option Value} (h : q_ll st f = some r) : ∃ x y t, st = .long y :: .long x :: t ∧ f x y t = some r := by
  unfold q_ll at h
  split at h
  · exact ⟨_, _, _, rfl, h⟩
  · cases h
theorem q_li_inv {st : List Value} {f : Int64 → Int32 → List Value → q_A} {r : q_S × Option Value} (h : q_li st f = some r) : ∃ x y t, st = .int y :: .long x :: t ∧ f x y t = some r := by
  unfold q_li at h
  split at h
  · exact ⟨_, _, _, rfl, h⟩
  · cases h
theorem q_r_inv {st : List Value} {f : Nat → List Value → q_A} {r : q_S × Option Value} (h : q_r st f = some r) : ∃ x t, st = .ref x :: t ∧ f x t = some r := by
  unfold q_r at h
  split at h
  · exact ⟨_, _, rfl, h⟩
  · cases h
theorem q_ri_inv {st : List Value} {f : Nat → Int32 → List Value → q_A} {r : q_S × Option Value} (h : q_ri st f = some r) : ∃ a i t, st = .int i :: .ref a :: t ∧ f a i t = some r := by
  unfold q_ri at h
  split at h
  · exact ⟨_, _, _, rfl, h⟩
  · cases h
theorem q_rr_inv {st : List Value} {f : Nat → Nat → List Value → q_A} {r : q_S × Option Value} (h : q_rr st f = some r) : ∃ a b t, st = .ref b :: .ref a :: t ∧ f a b t = some r := by
  unfold q_rr at h
  split at h
  · exact ⟨_, _, _, rfl, h⟩
  · cases h
theorem q_rii_inv {st : List Value} {f : Nat → Int32 → Int32 → List Value → q_A} {r : q_S × Option Value} (h : q_rii st f = some r) : ∃ a i x t, st = .int x :: .int i :: .ref a :: t ∧ f a i x t = some r := by
  unfold q_rii at h
  split at h
  · exact ⟨_, _, _, _, rfl, h⟩
  · cases h
theorem q_ril_inv {st : List Value} {f : Nat → Int32 → Int64 → List Value → q_A} {r : q_S × Option Value} (h : q_ril st f = some r) : ∃ a i x t, st = .long x :: .int i :: .ref a :: t ∧ f a i x t = some r := by
  unfold q_ril at h
  split at h
  · exact ⟨_, _, _, _, rfl, h⟩
  · cases h
theorem q_ac_inv {st : List Value} {f : Nat → Int32 → Nat → Int32 → Int32 → List Value → q_A} {r : q_S × Option Value} (h : q_ac st f = some r) : ∃ a sp b dp n t, st = .int n :: .int dp :: .ref b :: .int sp :: .ref a :: t ∧ f a sp b dp n t = some r := by
  unfold q_ac at h
  split at h
  · exact ⟨_, _, _, _, _, _, rfl, h⟩
  · cases h
theorem q_b_inv {b : Bool} {f : q_A} {r : q_S × Option Value} (h : q_b b f = some r) : b = true ∧ f = some r := by
  cases b with
  | true => exact ⟨rfl, h⟩
  | false => cases h
theorem q_v_inv {st : List Value} {f : Value → List Value → q_A} {r : q_S × Option Value} (h : q_v st f = some r) : ∃ v t, st = v :: t ∧ v.category = 1 ∧ f v t = some r := by
  unfold q_v at h
  split at h
  · split at h
    · rename_i hb
      exact ⟨_, _, rfl, Nat.eq_of_beq_eq_true hb, h⟩
    · cases h
  · cases h
theorem q_vv_inv {st : List Value} {f : Value → Value → List Value → q_A} {r : q_S × Option Value} (h : q_vv st f = some r) : ∃ v w t, st = v :: w :: t ∧ v.category = 1 ∧ w.category = 1 ∧ f v w t = some r := by
  unfold q_vv at h
  split at h
  · split at h
    · rename_i hb
      have hb := (Bool.and_eq_true _ _).mp hb
      exact ⟨_, _, _, rfl, Nat.eq_of_beq_eq_true hb.1, Nat.eq_of_beq_eq_true hb.2, h⟩
    · cases h
  · cases h
theorem q_gi_inv {L : q_L} {i : Nat} {f : Int32 → q_A} {r : q_S × Option Value} (h : q_gi L i f = some r) : ∃ x, q_lk i L = some (.int x) ∧ f x = some r := by
  unfold q_gi at h
  split at h
  · rename_i hb
    exact ⟨_, hb, h⟩
  · cases h
theorem q_gl_inv {L : q_L} {i : Nat} {f : Int64 → q_A} {r : q_S × Option Value} (h : q_gl L i f = some r) : ∃ x, q_lk i L = some (.long x) ∧ f x = some r := by
  unfold q_gl at h
  split at h
  · rename_i hb
    exact ⟨_, hb, h⟩
  · cases h
theorem q_gr_inv {L : q_L} {i : Nat} {f : Nat → q_A} {r : q_S × Option Value} (h : q_gr L i f = some r) : ∃ x, q_lk i L = some (.ref x) ∧ f x = some r := by
  unfold q_gr at h
  split at h
  · rename_i hb
    exact ⟨_, hb, h⟩
  · cases h
theorem q_ix_inv {i : Int32} {n : Nat} {f : Nat → q_A} {r : q_S × Option Value} (h : q_ix i n f = some r) : vp_in i n ∧ f i.toNatClampNeg = some r := by
  unfold q_ix at h
  split at h
  · cases h
  · rename_i hb
    exact ⟨hb, h⟩
theorem q_sw_inv {x : Int32} {f : Nat → q_A} {r : q_S × Option Value} {d : Nat} : ∀ {sw : List (Int32 × Nat)}, q_sw sw d x f = some r → (∃ (j : Nat) (q : Int32 × Nat), sw[j]? = some q ∧ x = q.1 ∧ f q.2 = some r) ∨ ((∀ q ∈ sw, x ≠ q.1) ∧ f d = some r)
  | [], h => Or.inr ⟨fun q hq => (by cases hq), h⟩
  | q :: t, h => by
    unfold q_sw at h
    split at h
    · rename_i hb
      exact Or.inl ⟨0, q, rfl, hb, h⟩
    · rename_i hb
      rcases q_sw_inv h with ⟨j, q', h1, h2, h3⟩ | ⟨h1, h2⟩
      · exact Or.inl ⟨j + 1, q', h1, h2, h3⟩
      · refine Or.inr ⟨fun y hy => ?_, h2⟩
        rcases List.mem_cons.mp hy with e | e
        · rw [e]; exact hb
        · exact h1 y e
theorem q_pop_inv {f : List Value → List Value → q_A} {r : q_S × Option Value} : ∀ {n : Nat} {as st : List Value}, q_pop n as st f = some r → ∃ xs t, st = xs.reverse ++ t ∧ xs.length = n ∧ f (xs ++ as) t = some r
  | 0, as, st, h => ⟨[], st, rfl, rfl, h⟩
  | n + 1, as, [], h => by cases h
  | n + 1, as, v :: st, h => by
    obtain ⟨xs, t, h1, h2, h3⟩ := q_pop_inv (n := n) (as := v :: as) (st := st) h
    exact ⟨xs ++ [v], t, by simp [h1], by simp [h2], by simpa using h3⟩
theorem q_ca_sum (ad : Nat → Nat) : ∀ st : List Value, ((st.map (q_cv ad)).map fun v => v.category).sum = q_ca st
  | [] => rfl
  | v :: r => by
    rw [List.map_cons, List.map_cons, List.sum_cons, q_ca_sum ad r, q_cv_cat]
    rfl

section QS
variable {p : Program} {l : Launch} {e : Env} {R : Room} {s : State} {m : MethodId} {args : Array Value} {below : List Frame} {meth : Method} {c : Code} {cells slots : Nat} {Q : State → Prop} {D : va_G} {cA : Nat → ClassId} {ad : Nat → Nat} {A : Nat → Prop} {X : q_X} {cc : ByteArray} {own : String} {nL : Nat}
variable {E : q_E} {O : q_O} {k : q_K} {pc : Nat} {L : q_L} {st : List Value} {h : q_S} {r : q_S × Option Value} {au : List Nat} {sw : List (Int32 × Nat)}
theorem qs_iadd {x y : Int32} (hC : q_Cx p l R s m args c D cA ad A X cc own nL) (hd : decode cc pc = .ok (.iadd, 1))  (k : q_Psi p l e R s m args below meth c cells slots Q D cA ad A nL (pc + 1) L (.int (x + y) :: st) h) : q_Psi p l e R s m args below meth c cells slots Q D cA ad A nL pc L (.int y :: .int x :: st) h := by
  intro H locs ls hP hS hl
  exact lv_iadd hC.1 hC.2.1 hd (k H locs ls hP hS hl)
theorem qs_isub {x y : Int32} (hC : q_Cx p l R s m args c D cA ad A X cc own nL) (hd : decode cc pc = .ok (.isub, 1))  (k : q_Psi p l e R s m args below meth c cells slots Q D cA ad A nL (pc + 1) L (.int (x - y) :: st) h) : q_Psi p l e R s m args below meth c cells slots Q D cA ad A nL pc L (.int y :: .int x :: st) h := by
  intro H locs ls hP hS hl
  exact lv_isub hC.1 hC.2.1 hd (k H locs ls hP hS hl)
theorem qs_imul {x y : Int32} (hC : q_Cx p l R s m args c D cA ad A X cc own nL) (hd : decode cc pc = .ok (.imul, 1))  (k : q_Psi p l e R s m args below meth c cells slots Q D cA ad A nL (pc + 1) L (.int (x * y) :: st) h) : q_Psi p l e R s m args below meth c cells slots Q D cA ad A nL pc L (.int y :: .int x :: st) h := by
  intro H locs ls hP hS hl
  exact lv_imul hC.1 hC.2.1 hd (k H locs ls hP hS hl)
theorem qs_iand {x y : Int32} (hC : q_Cx p l R s m args c D cA ad A X cc own nL) (hd : decode cc pc = .ok (.iand, 1))  (k : q_Psi p l e R s m args below meth c cells slots Q D cA ad A nL (pc + 1) L (.int (x &&& y) :: st) h) : q_Psi p l e R s m args below meth c cells slots Q D cA ad A nL pc L (.int y :: .int x :: st) h := by
  intro H locs ls hP hS hl
  exact lv_iand hC.1 hC.2.1 hd (k H locs ls hP hS hl)
theorem qs_ior {x y : Int32} (hC : q_Cx p l R s m args c D cA ad A X cc own nL) (hd : decode cc pc = .ok (.ior, 1))  (k : q_Psi p l e R s m args below meth c cells slots Q D cA ad A nL (pc + 1) L (.int (x ||| y) :: st) h) : q_Psi p l e R s m args below meth c cells slots Q D cA ad A nL pc L (.int y :: .int x :: st) h := by
  intro H locs ls hP hS hl
  exact lv_ior hC.1 hC.2.1 hd (k H locs ls hP hS hl)
theorem qs_ixor {x y : Int32} (hC : q_Cx p l R s m args c D cA ad A X cc own nL) (hd : decode cc pc = .ok (.ixor, 1))  (k : q_Psi p l e R s m args below meth c cells slots Q D cA ad A nL (pc + 1) L (.int (x ^^^ y) :: st) h) : q_Psi p l e R s m args below meth c cells slots Q D cA ad A nL pc L (.int y :: .int x :: st) h := by
  intro H locs ls hP hS hl
  exact lv_ixor hC.1 hC.2.1 hd (k H locs ls hP hS hl)
theorem qs_ladd {x y : Int64} (hC : q_Cx p l R s m args c D cA ad A X cc own nL) (hd : decode cc pc = .ok (.ladd, 1))  (k : q_Psi p l e R s m args below meth c cells slots Q D cA ad A nL (pc + 1) L (.long (x + y) :: st) h) : q_Psi p l e R s m args below meth c cells slots Q D cA ad A nL pc L (.long y :: .long x :: st) h := by
  intro H locs ls hP hS hl
  exact lv_ladd hC.1 hC.2.1 hd (k H locs ls hP hS hl)
theorem qs_lsub {x y : Int64} (hC : q_Cx p l R s m args c D cA ad A X cc own nL) (hd : decode cc pc = .ok (.lsub, 1))  (k : q_Psi p l e R s m args below meth c cells slots Q D cA ad A nL (pc + 1) L (.long (x - y) :: st) h) : q_Psi p l e R s m args below meth c cells slots Q D cA ad A nL pc L (.long y :: .long x :: st) h := by
  intro H locs ls hP hS hl
  exact lv_lsub hC.1 hC.2.1 hd (k H locs ls hP hS hl)
theorem qs_lmul {x y : Int64} (hC : q_Cx p l R s m args c D cA ad A X cc own nL) (hd : decode cc pc = .ok (.lmul, 1))  (k : q_Psi p l e R s m args below meth c cells slots Q D cA ad A nL (pc + 1) L (.long (x * y) :: st) h) : q_Psi p l e R s m args below meth c cells slots Q D cA ad A nL pc L (.long y :: .long x :: st) h := by
  intro H locs ls hP hS hl
  exact lv_lmul hC.1 hC.2.1 hd (k H locs ls hP hS hl)
theorem qs_land {x y : Int64} (hC : q_Cx p l R s m args c D cA ad A X cc own nL) (hd : decode cc pc = .ok (.land, 1))  (k : q_Psi p l e R s m args below meth c cells slots Q D cA ad A nL (pc + 1) L (.long (x &&& y) :: st) h) : q_Psi p l e R s m args below meth c cells slots Q D cA ad A nL pc L (.long y :: .long x :: st) h := by
  intro H locs ls hP hS hl
  exact lv_land hC.1 hC.2.1 hd (k H locs ls hP hS hl)
theorem qs_lor {x y : Int64} (hC : q_Cx p l R s m args c D cA ad A X cc own nL) (hd : decode cc pc = .ok (.lor, 1))  (k : q_Psi p l e R s m args below meth c cells slots Q D cA ad A nL (pc + 1) L (.long (x ||| y) :: st) h) : q_Psi p l e R s m args below meth c cells slots Q D cA ad A nL pc L (.long y :: .long x :: st) h := by
  intro H locs ls hP hS hl
  exact lv_lor hC.1 hC.2.1 hd (k H locs ls hP hS hl)
theorem qs_lxor {x y : Int64} (hC : q_Cx p l R s m args c D cA ad A X cc own nL) (hd : decode cc pc = .ok (.lxor, 1))  (k : q_Psi p l e R s m args below meth c cells slots Q D cA ad A nL (pc + 1) L (.long (x ^^^ y) :: st) h) : q_Psi p l e R s m args below meth c cells slots Q D cA ad A nL pc L (.long y :: .long x :: st) h := by
  intro H locs ls hP hS hl
  exact lv_lxor hC.1 hC.2.1 hd (k H locs ls hP hS hl)
theorem qs_idiv {x y : Int32} (hC : q_Cx p l R s m args c D cA ad A X cc own nL) (hd : decode cc pc = .ok (.idiv, 1)) (hne : ¬ y = 0) (k : q_Psi p l e R s m args below meth c cells slots Q D cA ad A nL (pc + 1) L (.int (x / y) :: st) h) : q_Psi p l e R s m args below meth c cells slots Q D cA ad A nL pc L (.int y :: .int x :: st) h := by
  intro H locs ls hP hS hl
  exact lv_idiv hC.1 hC.2.1 hd hne (k H locs ls hP hS hl)
theorem qs_irem {x y : Int32} (hC : q_Cx p l R s m args c D cA ad A X cc own nL) (hd : decode cc pc = .ok (.irem, 1)) (hne : ¬ y = 0) (k : q_Psi p l e R s m args below meth c cells slots Q D cA ad A nL (pc + 1) L (.int (x - x / y * y) :: st) h) : q_Psi p l e R s m args below meth c cells slots Q D cA ad A nL pc L (.int y :: .int x :: st) h := by
  intro H locs ls hP hS hl
  exact lv_irem hC.1 hC.2.1 hd hne (k H locs ls hP hS hl)
theorem qs_ldiv {x y : Int64} (hC : q_Cx p l R s m args c D cA ad A X cc own nL) (hd : decode cc pc = .ok (.ldiv, 1)) (hne : ¬ y = 0) (k : q_Psi p l e R s m args below meth c cells slots Q D cA ad A nL (pc + 1) L (.long (x / y) :: st) h) : q_Psi p l e R s m args below meth c cells slots Q D cA ad A nL pc L (.long y :: .long x :: st) h := by
  intro H locs ls hP hS hl
  exact lv_ldiv hC.1 hC.2.1 hd hne (k H locs ls hP hS hl)
theorem qs_lrem {x y : Int64} (hC : q_Cx p l R s m args c D cA ad A X cc own nL) (hd : decode cc pc = .ok (.lrem, 1)) (hne : ¬ y = 0) (k : q_Psi p l e R s m args below meth c cells slots Q D cA ad A nL (pc + 1) L (.long (x - x / y * y) :: st) h) : q_Psi p l e R s m args below meth c cells slots Q D cA ad A nL pc L (.long y :: .long x :: st) h := by
  intro H locs ls hP hS hl
  exact lv_lrem hC.1 hC.2.1 hd hne (k H locs ls hP hS hl)
theorem qs_ineg {x : Int32} (hC : q_Cx p l R s m args c D cA ad A X cc own nL) (hd : decode cc pc = .ok (.ineg, 1))  (k : q_Psi p l e R s m args below meth c cells slots Q D cA ad A nL (pc + 1) L (.int (-x) :: st) h) : q_Psi p l e R s m args below meth c cells slots Q D cA ad A nL pc L (.int x :: st) h := by
  intro H locs ls hP hS hl
  exact lv_ineg hC.1 hC.2.1 hd (k H locs ls hP hS hl)
theorem qs_ishl {x y : Int32} (hC : q_Cx p l R s m args c D cA ad A X cc own nL) (hd : decode cc pc = .ok (.ishl, 1))  (k : q_Psi p l e R s m args below meth c cells slots Q D cA ad A nL (pc + 1) L (.int (x <<< (y &&& 31)) :: st) h) : q_Psi p l e R s m args below meth c cells slots Q D cA ad A nL pc L (.int y :: .int x :: st) h := by
  intro H locs ls hP hS hl
  exact lv_ishl hC.1 hC.2.1 hd (k H locs ls hP hS hl)
theorem qs_ishr {x y : Int32} (hC : q_Cx p l R s m args c D cA ad A X cc own nL) (hd : decode cc pc = .ok (.ishr, 1))  (k : q_Psi p l e R s m args below meth c cells slots Q D cA ad A nL (pc + 1) L (.int (x >>> (y &&& 31)) :: st) h) : q_Psi p l e R s m args below meth c cells slots Q D cA ad A nL pc L (.int y :: .int x :: st) h := by
  intro H locs ls hP hS hl
  exact lv_ishr hC.1 hC.2.1 hd (k H locs ls hP hS hl)
theorem qs_lshl {x : Int64} {y : Int32} (hC : q_Cx p l R s m args c D cA ad A X cc own nL) (hd : decode cc pc = .ok (.lshl, 1))  (k : q_Psi p l e R s m args below meth c cells slots Q D cA ad A nL (pc + 1) L (.long (x <<< (y.toInt64 &&& 63)) :: st) h) : q_Psi p l e R s m args below meth c cells slots Q D cA ad A nL pc L (.int y :: .long x :: st) h := by
  intro H locs ls hP hS hl
  exact lv_lshl hC.1 hC.2.1 hd rfl (k H locs ls hP hS hl)
theorem qs_lshr {x : Int64} {y : Int32} (hC : q_Cx p l R s m args c D cA ad A X cc own nL) (hd : decode cc pc = .ok (.lshr, 1))  (k : q_Psi p l e R s m args below meth c cells slots Q D cA ad A nL (pc + 1) L (.long (x >>> (y.toInt64 &&& 63)) :: st) h) : q_Psi p l e R s m args below meth c cells slots Q D cA ad A nL pc L (.int y :: .long x :: st) h := by
  intro H locs ls hP hS hl
  exact lv_lshr hC.1 hC.2.1 hd rfl (k H locs ls hP hS hl)
theorem qs_lcmp {x y : Int64} (hC : q_Cx p l R s m args c D cA ad A X cc own nL) (hd : decode cc pc = .ok (.lcmp, 1))  (k : q_Psi p l e R s m args below meth c cells slots Q D cA ad A nL (pc + 1) L (.int (lg_cmp x y) :: st) h) : q_Psi p l e R s m args below meth c cells slots Q D cA ad A nL pc L (.long y :: .long x :: st) h := by
  intro H locs ls hP hS hl
  exact W.lcmp hC.1 hC.2.1 hd (k H locs ls hP hS hl)
theorem qs_i2l {x : Int32} (hC : q_Cx p l R s m args c D cA ad A X cc own nL) (hd : decode cc pc = .ok (.i2l, 1))  (k : q_Psi p l e R s m args below meth c cells slots Q D cA ad A nL (pc + 1) L (.long x.toInt64 :: st) h) : q_Psi p l e R s m args below meth c cells slots Q D cA ad A nL pc L (.int x :: st) h := by
  intro H locs ls hP hS hl
  exact lv_i2l hC.1 hC.2.1 hd rfl (k H locs ls hP hS hl)
theorem qs_l2i {x : Int64} (hC : q_Cx p l R s m args c D cA ad A X cc own nL) (hd : decode cc pc = .ok (.l2i, 1))  (k : q_Psi p l e R s m args below meth c cells slots Q D cA ad A nL (pc + 1) L (.int x.toInt32 :: st) h) : q_Psi p l e R s m args below meth c cells slots Q D cA ad A nL pc L (.long x :: st) h := by
  intro H locs ls hP hS hl
  exact lv_l2i hC.1 hC.2.1 hd rfl (k H locs ls hP hS hl)
theorem qs_i2b {x : Int32} (hC : q_Cx p l R s m args c D cA ad A X cc own nL) (hd : decode cc pc = .ok (.i2b, 1))  (k : q_Psi p l e R s m args below meth c cells slots Q D cA ad A nL (pc + 1) L (.int x.toInt8.toInt32 :: st) h) : q_Psi p l e R s m args below meth c cells slots Q D cA ad A nL pc L (.int x :: st) h := by
  intro H locs ls hP hS hl
  exact lv_i2b hC.1 hC.2.1 hd rfl (k H locs ls hP hS hl)
theorem qs_dup {v : Value} (hC : q_Cx p l R s m args c D cA ad A X cc own nL) (hd : decode cc pc = .ok (.dup, 1)) (h1 : v.category = 1) (k : q_Psi p l e R s m args below meth c cells slots Q D cA ad A nL (pc + 1) L (v :: v :: st) h) : q_Psi p l e R s m args below meth c cells slots Q D cA ad A nL pc L (v :: st) h := by
  intro H locs ls hP hS hl
  exact lv_dup hC.1 hC.2.1 hd (by rw [q_cv_cat]; exact h1) (k H locs ls hP hS hl)
theorem qs_dup_x1 {v w : Value} (hC : q_Cx p l R s m args c D cA ad A X cc own nL) (hd : decode cc pc = .ok (.dup_x1, 1)) (h1 : v.category = 1) (h2 : w.category = 1) (k : q_Psi p l e R s m args below meth c cells slots Q D cA ad A nL (pc + 1) L (v :: w :: v :: st) h) : q_Psi p l e R s m args below meth c cells slots Q D cA ad A nL pc L (v :: w :: st) h := by
  intro H locs ls hP hS hl
  exact lv_dup_x1 hC.1 hC.2.1 hd (by rw [q_cv_cat]; exact h1) (by rw [q_cv_cat]; exact h2) (k H locs ls hP hS hl)
theorem qs_dup2 {v w : Value} (hC : q_Cx p l R s m args c D cA ad A X cc own nL) (hd : decode cc pc = .ok (.dup2, 1)) (h1 : v.category = 1) (h2 : w.category = 1) (k : q_Psi p l e R s m args below meth c cells slots Q D cA ad A nL (pc + 1) L (v :: w :: v :: w :: st) h) : q_Psi p l e R s m args below meth c cells slots Q D cA ad A nL pc L (v :: w :: st) h := by
  intro H locs ls hP hS hl
  exact lv_dup2_11 hC.1 hC.2.1 hd (by rw [q_cv_cat]; exact h1) (by rw [q_cv_cat]; exact h2) (k H locs ls hP hS hl)
theorem qs_pop {v : Value} (hC : q_Cx p l R s m args c D cA ad A X cc own nL) (hd : decode cc pc = .ok (.pop, 1)) (h1 : v.category = 1) (k : q_Psi p l e R s m args below meth c cells slots Q D cA ad A nL (pc + 1) L (st) h) : q_Psi p l e R s m args below meth c cells slots Q D cA ad A nL pc L (v :: st) h := by
  intro H locs ls hP hS hl
  exact lv_pop hC.1 hC.2.1 hd (by rw [q_cv_cat]; exact h1) (k H locs ls hP hS hl)
theorem qs_iconst {n : Int} {v : Int32} (hC : q_Cx p l R s m args c D cA ad A X cc own nL) (hd : decode cc pc = .ok (.iconst n, 1)) (hv : Int32.ofInt n = v) (k : q_Psi p l e R s m args below meth c cells slots Q D cA ad A nL (pc + 1) L (.int v :: st) h) : q_Psi p l e R s m args below meth c cells slots Q D cA ad A nL pc L (st) h := by
  intro H locs ls hP hS hl
  exact lv_iconst hC.1 hC.2.1 hd hv (k H locs ls hP hS hl)
theorem qs_bipush {n : Int} {v : Int32} (hC : q_Cx p l R s m args c D cA ad A X cc own nL) (hd : decode cc pc = .ok (.bipush n, 2)) (hv : (Int8.ofInt n).toInt32 = v) (k : q_Psi p l e R s m args below meth c cells slots Q D cA ad A nL (pc + 2) L (.int v :: st) h) : q_Psi p l e R s m args below meth c cells slots Q D cA ad A nL pc L (st) h := by
  intro H locs ls hP hS hl
  exact lv_bipush hC.1 hC.2.1 hd hv (k H locs ls hP hS hl)
theorem qs_sipush {n : Int} {v : Int32} (hC : q_Cx p l R s m args c D cA ad A X cc own nL) (hd : decode cc pc = .ok (.sipush n, 3)) (hv : (Int16.ofInt n).toInt32 = v) (k : q_Psi p l e R s m args below meth c cells slots Q D cA ad A nL (pc + 3) L (.int v :: st) h) : q_Psi p l e R s m args below meth c cells slots Q D cA ad A nL pc L (st) h := by
  intro H locs ls hP hS hl
  exact lv_sipush hC.1 hC.2.1 hd hv (k H locs ls hP hS hl)
theorem qs_lconst {n : Fin 2} (hC : q_Cx p l R s m args c D cA ad A X cc own nL) (hd : decode cc pc = .ok (.lconst n, 1))  (k : q_Psi p l e R s m args below meth c cells slots Q D cA ad A nL (pc + 1) L (.long (Int64.ofNat n.val) :: st) h) : q_Psi p l e R s m args below meth c cells slots Q D cA ad A nL pc L (st) h := by
  intro H locs ls hP hS hl
  exact lv_lconst hC.1 hC.2.1 hd rfl (k H locs ls hP hS hl)
theorem qs_ldc2 {i : Nat} {v : Int64} (hC : q_Cx p l R s m args c D cA ad A X cc own nL) (hd : decode cc pc = .ok (.ldc2_w i, 3)) (hw : Cond.constantLong own i v ∈ q_TW) (k : q_Psi p l e R s m args below meth c cells slots Q D cA ad A nL (pc + 3) L (.long v :: st) h) : q_Psi p l e R s m args below meth c cells slots Q D cA ad A nL pc L (st) h := by
  intro H locs ls hP hS hl
  exact lv_ldc2 hC.1 hC.2.1 hC.2.2.2.1 (hC.2.2.2.2.1 _ hw) hd (k H locs ls hP hS hl)
theorem qs_iload_n {n : Fin 4} {x : Int32} (hC : q_Cx p l R s m args c D cA ad A X cc own nL) (hd : decode cc pc = .ok (.iload_n n, 1)) (hk : q_lk n.val L = some (.int x)) (k : q_Psi p l e R s m args below meth c cells slots Q D cA ad A nL (pc + 1) L (.int x :: st) h) : q_Psi p l e R s m args below meth c cells slots Q D cA ad A nL pc L (st) h := by
  intro H locs ls hP hS hl
  exact lv_iload_n hC.1 hC.2.1 hd rfl (q_lk_ls hl hk) (k H locs ls hP hS hl)
theorem qs_iload {n : Nat} {x : Int32} (hC : q_Cx p l R s m args c D cA ad A X cc own nL) (hd : decode cc pc = .ok (.iload n, 2)) (hk : q_lk n L = some (.int x)) (k : q_Psi p l e R s m args below meth c cells slots Q D cA ad A nL (pc + 2) L (.int x :: st) h) : q_Psi p l e R s m args below meth c cells slots Q D cA ad A nL pc L (st) h := by
  intro H locs ls hP hS hl
  exact lv_iload hC.1 hC.2.1 hd (q_lk_ls hl hk) (k H locs ls hP hS hl)
theorem qs_istore_n {n : Fin 4} {x : Int32} (hC : q_Cx p l R s m args c D cA ad A X cc own nL) (hd : decode cc pc = .ok (.istore_n n, 1)) (hn : n.val < nL) (k : q_Psi p l e R s m args below meth c cells slots Q D cA ad A nL (pc + 1) (q_st1 L n.val (.int x)) st h) : q_Psi p l e R s m args below meth c cells slots Q D cA ad A nL pc L (.int x :: st) h := by
  intro H locs ls hP hS hl
  exact lv_istore_n hC.1 hC.2.1 hd rfl hl hn (q_ml_st1 ad L n.val (.int x)) (fun ls hl => k H locs ls hP hS hl)
theorem qs_istore {n : Nat} {x : Int32} (hC : q_Cx p l R s m args c D cA ad A X cc own nL) (hd : decode cc pc = .ok (.istore n, 2)) (hn : n < nL) (k : q_Psi p l e R s m args below meth c cells slots Q D cA ad A nL (pc + 2) (q_st1 L n (.int x)) st h) : q_Psi p l e R s m args below meth c cells slots Q D cA ad A nL pc L (.int x :: st) h := by
  intro H locs ls hP hS hl
  exact lv_istore hC.1 hC.2.1 hd hl hn (q_ml_st1 ad L n (.int x)) (fun ls hl => k H locs ls hP hS hl)
theorem qs_lload_n {n : Fin 4} {x : Int64} (hC : q_Cx p l R s m args c D cA ad A X cc own nL) (hd : decode cc pc = .ok (.lload_n n, 1)) (hk : q_lk n.val L = some (.long x)) (k : q_Psi p l e R s m args below meth c cells slots Q D cA ad A nL (pc + 1) L (.long x :: st) h) : q_Psi p l e R s m args below meth c cells slots Q D cA ad A nL pc L (st) h := by
  intro H locs ls hP hS hl
  exact lv_lload_n hC.1 hC.2.1 hd rfl (q_lk_ls hl hk) (k H locs ls hP hS hl)
theorem qs_lload {n : Nat} {x : Int64} (hC : q_Cx p l R s m args c D cA ad A X cc own nL) (hd : decode cc pc = .ok (.lload n, 2)) (hk : q_lk n L = some (.long x)) (k : q_Psi p l e R s m args below meth c cells slots Q D cA ad A nL (pc + 2) L (.long x :: st) h) : q_Psi p l e R s m args below meth c cells slots Q D cA ad A nL pc L (st) h := by
  intro H locs ls hP hS hl
  exact lv_lload hC.1 hC.2.1 hd (q_lk_ls hl hk) (k H locs ls hP hS hl)
theorem qs_lstore_n {n : Fin 4} {x : Int64} (hC : q_Cx p l R s m args c D cA ad A X cc own nL) (hd : decode cc pc = .ok (.lstore_n n, 1)) (hn : n.val + 1 < nL) (k : q_Psi p l e R s m args below meth c cells slots Q D cA ad A nL (pc + 1) (q_st2 L n.val (.long x)) st h) : q_Psi p l e R s m args below meth c cells slots Q D cA ad A nL pc L (.long x :: st) h := by
  intro H locs ls hP hS hl
  exact lv_lstore_n hC.1 hC.2.1 hd rfl hl hn (q_ml_st2 ad L n.val (.long x)) (fun ls hl => k H locs ls hP hS hl)
theorem qs_lstore {n : Nat} {x : Int64} (hC : q_Cx p l R s m args c D cA ad A X cc own nL) (hd : decode cc pc = .ok (.lstore n, 2)) (hn : n + 1 < nL) (k : q_Psi p l e R s m args below meth c cells slots Q D cA ad A nL (pc + 2) (q_st2 L n (.long x)) st h) : q_Psi p l e R s m args below meth c cells slots Q D cA ad A nL pc L (.long x :: st) h := by
  intro H locs ls hP hS hl
  exact lv_lstore hC.1 hC.2.1 hd hl hn (q_ml_st2 ad L n (.long x)) (fun ls hl => k H locs ls hP hS hl)
theorem qs_aload_n {n : Fin 4} {x : Nat} (hC : q_Cx p l R s m args c D cA ad A X cc own nL) (hd : decode cc pc = .ok (.aload_n n, 1)) (hk : q_lk n.val L = some (.ref x)) (k : q_Psi p l e R s m args below meth c cells slots Q D cA ad A nL (pc + 1) L (.ref x :: st) h) : q_Psi p l e R s m args below meth c cells slots Q D cA ad A nL pc L (st) h := by
  intro H locs ls hP hS hl
  exact lv_aload_n hC.1 hC.2.1 hd rfl (q_lk_ls hl hk) (k H locs ls hP hS hl)
theorem qs_aload {n : Nat} {x : Nat} (hC : q_Cx p l R s m args c D cA ad A X cc own nL) (hd : decode cc pc = .ok (.aload n, 2)) (hk : q_lk n L = some (.ref x)) (k : q_Psi p l e R s m args below meth c cells slots Q D cA ad A nL (pc + 2) L (.ref x :: st) h) : q_Psi p l e R s m args below meth c cells slots Q D cA ad A nL pc L (st) h := by
  intro H locs ls hP hS hl
  exact lv_aload hC.1 hC.2.1 hd (q_lk_ls hl hk) (k H locs ls hP hS hl)
theorem qs_astore_n {n : Fin 4} {x : Nat} (hC : q_Cx p l R s m args c D cA ad A X cc own nL) (hd : decode cc pc = .ok (.astore_n n, 1)) (hn : n.val < nL) (k : q_Psi p l e R s m args below meth c cells slots Q D cA ad A nL (pc + 1) (q_st1 L n.val (.ref x)) st h) : q_Psi p l e R s m args below meth c cells slots Q D cA ad A nL pc L (.ref x :: st) h := by
  intro H locs ls hP hS hl
  exact lv_astore_n hC.1 hC.2.1 hd rfl hl hn (q_ml_st1 ad L n.val (.ref x)) (fun ls hl => k H locs ls hP hS hl)
theorem qs_astore {n : Nat} {x : Nat} (hC : q_Cx p l R s m args c D cA ad A X cc own nL) (hd : decode cc pc = .ok (.astore n, 2)) (hn : n < nL) (k : q_Psi p l e R s m args below meth c cells slots Q D cA ad A nL (pc + 2) (q_st1 L n (.ref x)) st h) : q_Psi p l e R s m args below meth c cells slots Q D cA ad A nL pc L (.ref x :: st) h := by
  intro H locs ls hP hS hl
  exact lv_astore hC.1 hC.2.1 hd hl hn (q_ml_st1 ad L n (.ref x)) (fun ls hl => k H locs ls hP hS hl)
theorem qs_iinc {n : Nat} {z : Int} {x v : Int32} (hC : q_Cx p l R s m args c D cA ad A X cc own nL) (hd : decode cc pc = .ok (.iinc n z, 3)) (hk : q_lk n L = some (.int x)) (hv : Int32.ofInt z = v) (hn : n < nL) (k : q_Psi p l e R s m args below meth c cells slots Q D cA ad A nL (pc + 3) (q_st1 L n (.int (x + v))) st h) : q_Psi p l e R s m args below meth c cells slots Q D cA ad A nL pc L st h := by
  intro H locs ls hP hS hl
  have hm : (n, Value.int x) ∈ q_ml ad L := List.mem_map.mpr ⟨(n, .int x), q_lk_mem hk, rfl⟩
  obtain ⟨j, hj⟩ := List.getElem?_of_mem hm
  exact lv_iinc hC.1 hC.2.1 hd hl hj (by rw [hv]) hn (q_ml_st1 ad L n (.int (x + v))) (fun ls hl => k H locs ls hP hS hl)
theorem qs_goto {off : Int} {t : Nat} (hC : q_Cx p l R s m args c D cA ad A X cc own nL) (hd : decode cc pc = .ok (.goto off, 3)) (ht : (pc : Int) + off = (t : Int)) (k : q_Psi p l e R s m args below meth c cells slots Q D cA ad A nL t L st h) : q_Psi p l e R s m args below meth c cells slots Q D cA ad A nL pc L st h := by
  intro H locs ls hP hS hl
  exact lv_goto hC.1 hC.2.1 hd ht (k H locs ls hP hS hl)
theorem qs_if_eq {x : Int32} {off : Int} {t : Nat} (hC : q_Cx p l R s m args c D cA ad A X cc own nL) (hd : decode cc pc = .ok (.ifCond .eq off, 3)) (ht : (pc : Int) + off = (t : Int)) (k1 : x = 0 → q_Psi p l e R s m args below meth c cells slots Q D cA ad A nL t L st h) (k2 : ¬ x = 0 → q_Psi p l e R s m args below meth c cells slots Q D cA ad A nL (pc + 3) L st h) : q_Psi p l e R s m args below meth c cells slots Q D cA ad A nL pc L (.int x :: st) h := by
  intro H locs ls hP hS hl
  exact lv_if_eq hC.1 hC.2.1 hd ht (fun q => k1 q H locs ls hP hS hl) (fun q => k2 q H locs ls hP hS hl)
theorem qs_if_ne {x : Int32} {off : Int} {t : Nat} (hC : q_Cx p l R s m args c D cA ad A X cc own nL) (hd : decode cc pc = .ok (.ifCond .ne off, 3)) (ht : (pc : Int) + off = (t : Int)) (k1 : x = 0 → q_Psi p l e R s m args below meth c cells slots Q D cA ad A nL (pc + 3) L st h) (k2 : ¬ x = 0 → q_Psi p l e R s m args below meth c cells slots Q D cA ad A nL t L st h) : q_Psi p l e R s m args below meth c cells slots Q D cA ad A nL pc L (.int x :: st) h := by
  intro H locs ls hP hS hl
  exact lv_if_ne hC.1 hC.2.1 hd ht (fun q => k2 q H locs ls hP hS hl) (fun q => k1 q H locs ls hP hS hl)
theorem qs_if_lt {x : Int32} {off : Int} {t : Nat} (hC : q_Cx p l R s m args c D cA ad A X cc own nL) (hd : decode cc pc = .ok (.ifCond .lt off, 3)) (ht : (pc : Int) + off = (t : Int)) (k1 : x < 0 → q_Psi p l e R s m args below meth c cells slots Q D cA ad A nL t L st h) (k2 : ¬ x < 0 → q_Psi p l e R s m args below meth c cells slots Q D cA ad A nL (pc + 3) L st h) : q_Psi p l e R s m args below meth c cells slots Q D cA ad A nL pc L (.int x :: st) h := by
  intro H locs ls hP hS hl
  exact lv_if_lt hC.1 hC.2.1 hd ht (fun q => k1 q H locs ls hP hS hl) (fun q => k2 q H locs ls hP hS hl)
theorem qs_if_ge {x : Int32} {off : Int} {t : Nat} (hC : q_Cx p l R s m args c D cA ad A X cc own nL) (hd : decode cc pc = .ok (.ifCond .ge off, 3)) (ht : (pc : Int) + off = (t : Int)) (k1 : x < 0 → q_Psi p l e R s m args below meth c cells slots Q D cA ad A nL (pc + 3) L st h) (k2 : ¬ x < 0 → q_Psi p l e R s m args below meth c cells slots Q D cA ad A nL t L st h) : q_Psi p l e R s m args below meth c cells slots Q D cA ad A nL pc L (.int x :: st) h := by
  intro H locs ls hP hS hl
  exact lv_if_ge hC.1 hC.2.1 hd ht (fun q => k2 (Int32.not_lt.mpr q) H locs ls hP hS hl) (fun q => k1 (Int32.not_le.mp q) H locs ls hP hS hl)
theorem qs_if_gt {x : Int32} {off : Int} {t : Nat} (hC : q_Cx p l R s m args c D cA ad A X cc own nL) (hd : decode cc pc = .ok (.ifCond .gt off, 3)) (ht : (pc : Int) + off = (t : Int)) (k1 : 0 < x → q_Psi p l e R s m args below meth c cells slots Q D cA ad A nL t L st h) (k2 : ¬ 0 < x → q_Psi p l e R s m args below meth c cells slots Q D cA ad A nL (pc + 3) L st h) : q_Psi p l e R s m args below meth c cells slots Q D cA ad A nL pc L (.int x :: st) h := by
  intro H locs ls hP hS hl
  exact lv_if_gt hC.1 hC.2.1 hd ht (fun q => k1 q H locs ls hP hS hl) (fun q => k2 q H locs ls hP hS hl)
theorem qs_if_le {x : Int32} {off : Int} {t : Nat} (hC : q_Cx p l R s m args c D cA ad A X cc own nL) (hd : decode cc pc = .ok (.ifCond .le off, 3)) (ht : (pc : Int) + off = (t : Int)) (k1 : 0 < x → q_Psi p l e R s m args below meth c cells slots Q D cA ad A nL (pc + 3) L st h) (k2 : ¬ 0 < x → q_Psi p l e R s m args below meth c cells slots Q D cA ad A nL t L st h) : q_Psi p l e R s m args below meth c cells slots Q D cA ad A nL pc L (.int x :: st) h := by
  intro H locs ls hP hS hl
  exact lv_if_le hC.1 hC.2.1 hd ht (fun q => k2 (Int32.not_lt.mpr q) H locs ls hP hS hl) (fun q => k1 (Int32.not_le.mp q) H locs ls hP hS hl)
theorem qs_icmp_eq {x y : Int32} {off : Int} {t : Nat} (hC : q_Cx p l R s m args c D cA ad A X cc own nL) (hd : decode cc pc = .ok (.if_icmp .eq off, 3)) (ht : (pc : Int) + off = (t : Int)) (k1 : x = y → q_Psi p l e R s m args below meth c cells slots Q D cA ad A nL t L st h) (k2 : ¬ x = y → q_Psi p l e R s m args below meth c cells slots Q D cA ad A nL (pc + 3) L st h) : q_Psi p l e R s m args below meth c cells slots Q D cA ad A nL pc L (.int y :: .int x :: st) h := by
  intro H locs ls hP hS hl
  exact lv_icmp_eq hC.1 hC.2.1 hd ht (fun q => k1 q H locs ls hP hS hl) (fun q => k2 q H locs ls hP hS hl)
theorem qs_icmp_ne {x y : Int32} {off : Int} {t : Nat} (hC : q_Cx p l R s m args c D cA ad A X cc own nL) (hd : decode cc pc = .ok (.if_icmp .ne off, 3)) (ht : (pc : Int) + off = (t : Int)) (k1 : x = y → q_Psi p l e R s m args below meth c cells slots Q D cA ad A nL (pc + 3) L st h) (k2 : ¬ x = y → q_Psi p l e R s m args below meth c cells slots Q D cA ad A nL t L st h) : q_Psi p l e R s m args below meth c cells slots Q D cA ad A nL pc L (.int y :: .int x :: st) h := by
  intro H locs ls hP hS hl
  exact lv_icmp_ne hC.1 hC.2.1 hd ht (fun q => k2 q H locs ls hP hS hl) (fun q => k1 q H locs ls hP hS hl)
theorem qs_icmp_lt {x y : Int32} {off : Int} {t : Nat} (hC : q_Cx p l R s m args c D cA ad A X cc own nL) (hd : decode cc pc = .ok (.if_icmp .lt off, 3)) (ht : (pc : Int) + off = (t : Int)) (k1 : x < y → q_Psi p l e R s m args below meth c cells slots Q D cA ad A nL t L st h) (k2 : ¬ x < y → q_Psi p l e R s m args below meth c cells slots Q D cA ad A nL (pc + 3) L st h) : q_Psi p l e R s m args below meth c cells slots Q D cA ad A nL pc L (.int y :: .int x :: st) h := by
  intro H locs ls hP hS hl
  exact lv_icmp_lt hC.1 hC.2.1 hd ht (fun q => k1 q H locs ls hP hS hl) (fun q => k2 q H locs ls hP hS hl)
theorem qs_icmp_ge {x y : Int32} {off : Int} {t : Nat} (hC : q_Cx p l R s m args c D cA ad A X cc own nL) (hd : decode cc pc = .ok (.if_icmp .ge off, 3)) (ht : (pc : Int) + off = (t : Int)) (k1 : x < y → q_Psi p l e R s m args below meth c cells slots Q D cA ad A nL (pc + 3) L st h) (k2 : ¬ x < y → q_Psi p l e R s m args below meth c cells slots Q D cA ad A nL t L st h) : q_Psi p l e R s m args below meth c cells slots Q D cA ad A nL pc L (.int y :: .int x :: st) h := by
  intro H locs ls hP hS hl
  exact lv_icmp_ge hC.1 hC.2.1 hd ht (fun q => k2 (Int32.not_lt.mpr q) H locs ls hP hS hl) (fun q => k1 (Int32.not_le.mp q) H locs ls hP hS hl)
theorem qs_icmp_gt {x y : Int32} {off : Int} {t : Nat} (hC : q_Cx p l R s m args c D cA ad A X cc own nL) (hd : decode cc pc = .ok (.if_icmp .gt off, 3)) (ht : (pc : Int) + off = (t : Int)) (k1 : y < x → q_Psi p l e R s m args below meth c cells slots Q D cA ad A nL t L st h) (k2 : ¬ y < x → q_Psi p l e R s m args below meth c cells slots Q D cA ad A nL (pc + 3) L st h) : q_Psi p l e R s m args below meth c cells slots Q D cA ad A nL pc L (.int y :: .int x :: st) h := by
  intro H locs ls hP hS hl
  exact lv_icmp_gt hC.1 hC.2.1 hd ht (fun q => k1 q H locs ls hP hS hl) (fun q => k2 q H locs ls hP hS hl)
theorem qs_icmp_le {x y : Int32} {off : Int} {t : Nat} (hC : q_Cx p l R s m args c D cA ad A X cc own nL) (hd : decode cc pc = .ok (.if_icmp .le off, 3)) (ht : (pc : Int) + off = (t : Int)) (k1 : y < x → q_Psi p l e R s m args below meth c cells slots Q D cA ad A nL (pc + 3) L st h) (k2 : ¬ y < x → q_Psi p l e R s m args below meth c cells slots Q D cA ad A nL t L st h) : q_Psi p l e R s m args below meth c cells slots Q D cA ad A nL pc L (.int y :: .int x :: st) h := by
  intro H locs ls hP hS hl
  exact lv_icmp_le hC.1 hC.2.1 hd ht (fun q => k2 (Int32.not_lt.mpr q) H locs ls hP hS hl) (fun q => k1 (Int32.not_le.mp q) H locs ls hP hS hl)
end QS
end
section
/-! ===== the heap, switches ===== -/
theorem q_w_nat : (Cond.native arraycopyName) ∈ q_TW := q_in 405 (by decide +kernel) (by decide +kernel)
theorem q_w_sta : (Cond.static arraycopyName) ∈ q_TW := q_in 404 (by decide +kernel) (by decide +kernel)
theorem q_w_sys : (Cond.initialized "java/lang/System") ∈ q_TW := q_in 58 (by decide +kernel) (by decide +kernel)
section QH
variable {p : Program} {l : Launch} {e : Env} {R : Room} {s : State} {m : MethodId} {args : Array Value} {below : List Frame} {meth : Method} {c : Code} {cells slots : Nat} {Q : State → Prop} {D : va_G} {cA : Nat → ClassId} {ad : Nat → Nat} {A : Nat → Prop} {X : q_X} {cc : ByteArray} {own : String} {nL : Nat}
variable {E : q_E} {O : q_O} {k : q_K} {pc : Nat} {L : q_L} {st : List Value} {h : q_S} {r : q_S × Option Value} {au : List Nat} {sw : List (Int32 × Nat)}
theorem qs_ifnullR {a : Nat} {off : Int} (hC : q_Cx p l R s m args c D cA ad A X cc own nL) (hd : decode cc pc = .ok (.ifnull off, 3)) (k : q_Psi p l e R s m args below meth c cells slots Q D cA ad A nL (pc + 3) L st h) : q_Psi p l e R s m args below meth c cells slots Q D cA ad A nL pc L (.ref a :: st) h := by
  intro H locs ls hP hS hl
  exact lv_ifnull hC.1 hC.2.1 hd (k H locs ls hP hS hl)
theorem qs_ifnullN {off : Int} {t : Nat} (hC : q_Cx p l R s m args c D cA ad A X cc own nL) (hd : decode cc pc = .ok (.ifnull off, 3)) (ht : (pc : Int) + off = (t : Int)) (k : q_Psi p l e R s m args below meth c cells slots Q D cA ad A nL t L st h) : q_Psi p l e R s m args below meth c cells slots Q D cA ad A nL pc L (.null :: st) h := by
  intro H locs ls hP hS hl
  exact lv_ifnullN hC.1 hC.2.1 hd ht (k H locs ls hP hS hl)
theorem qs_tsw {x : Int32} {d lo hi : Int} {offs : Array Int} {len dt : Nat} (hC : q_Cx p l R s m args c D cA ad A X cc own nL) (hd : decode cc pc = .ok (.tableswitch d lo hi offs, len)) (hlo : -2147483648 ≤ lo) (hhi : hi < 2147483648) (hn : (sw.length : Int) = hi - lo + 1) (hdt : (pc : Int) + d = (dt : Int))
    (hj : ∀ (j : Nat) (q : Int32 × Nat), sw[j]? = some q → q.1 = Int32.ofInt (lo + j) ∧ ∃ off, offs[j]? = some off ∧ (pc : Int) + off = (q.2 : Int))
    (k1 : ∀ (j : Nat) (q : Int32 × Nat), sw[j]? = some q → x = q.1 → q_Psi p l e R s m args below meth c cells slots Q D cA ad A nL q.2 L st h) (k2 : (∀ q ∈ sw, x ≠ q.1) → q_Psi p l e R s m args below meth c cells slots Q D cA ad A nL dt L st h) : q_Psi p l e R s m args below meth c cells slots Q D cA ad A nL pc L (.int x :: st) h := by
  intro H locs ls hP hS hl
  by_cases hin : x.toInt < lo ∨ hi < x.toInt
  · refine lv_tableOut hC.1 hC.2.1 hd hin hdt (k2 (fun q hq hx => ?_) H locs ls hP hS hl)
    obtain ⟨j, hjq⟩ := List.getElem?_of_mem hq
    have hlt := (List.getElem?_eq_some_iff.mp hjq).1
    have h1 := (hj j q hjq).1
    rw [hx, h1, Int32.toInt_ofInt_of_le (by omega) (by omega)] at hin
    omega
  · have hlt : (x.toInt - lo).toNat < sw.length := by omega
    obtain ⟨q, hq⟩ : ∃ q, sw[(x.toInt - lo).toNat]? = some q := ⟨_, List.getElem?_eq_getElem hlt⟩
    obtain ⟨h1, off, h2, h3⟩ := hj _ q hq
    have hx : x = q.1 := by
      rw [h1, show lo + ((x.toInt - lo).toNat : Int) = x.toInt by omega]
      exact (Int32.ofInt_toInt x).symm
    exact lv_tableIn hC.1 hC.2.1 hd (by omega) (by omega) h2 h3 (k1 _ q hq hx H locs ls hP hS hl)
theorem qs_lsw_off {x : Int32} {d : Int} {f : Nat → q_A} {r : q_S × Option Value} {pc dt : Nat} (hdt : (pc : Int) + d = (dt : Int)) : ∀ {ps : List (Int × Int)} {sw : List (Int32 × Nat)}, (ps.length = sw.length) → (∀ (j : Nat) (q : Int32 × Nat) (o : Int × Int), sw[j]? = some q → ps[j]? = some o → (-2147483648 ≤ o.1 ∧ o.1 < 2147483648) ∧ q.1 = Int32.ofInt o.1 ∧ (pc : Int) + o.2 = (q.2 : Int)) → q_sw sw dt x f = some r → ∃ t : Nat, (pc : Int) + Op.lookupswitch.offset ps d x.toInt = (t : Int) ∧ f t = some r
  | [], [], _, _, h => ⟨dt, hdt, h⟩
  | [], _ :: _, hn, _, _ => by simp at hn
  | _ :: _, [], hn, _, _ => by simp at hn
  | o :: ps, q :: sw, hn, hj, h => by
    obtain ⟨⟨b1, b2⟩, h1, h2⟩ := hj 0 q o rfl rfl
    unfold q_sw at h
    obtain ⟨a, b⟩ := o
    rw [lookupswitch.offset_cons]
    split at h
    · rename_i hx
      have : a = x.toInt := by rw [hx, h1, Int32.toInt_ofInt_of_le b1 b2]
      rw [if_pos this]
      exact ⟨q.2, h2, h⟩
    · rename_i hx
      have : ¬ a = x.toInt := fun e => hx (by rw [h1]; simp only; rw [e]; exact (Int32.ofInt_toInt x).symm)
      rw [if_neg this]
      exact qs_lsw_off hdt (by simpa using hn) (fun j q o h1 h2 => hj (j + 1) q o h1 h2) h
theorem qs_lsw {x : Int32} {d : Int} {ps : Array (Int × Int)} {len t : Nat} (hC : q_Cx p l R s m args c D cA ad A X cc own nL) (hd : decode cc pc = .ok (.lookupswitch d ps, len)) (hp : (ps.toList.zip (ps.toList.drop 1)).all (fun (a, next) => a.1 < next.1) = true) (ht : (pc : Int) + Op.lookupswitch.offset ps.toList d x.toInt = (t : Int)) (k : q_Psi p l e R s m args below meth c cells slots Q D cA ad A nL t L st h) : q_Psi p l e R s m args below meth c cells slots Q D cA ad A nL pc L (.int x :: st) h := by
  intro H locs ls hP hS hl
  exact lv_lookup hC.1 hC.2.1 hd hp rfl ht (k H locs ls hP hS hl)
theorem qs_gets {i a : Nat} {nm : String} (hC : q_Cx p l R s m args c D cA ad A X cc own nL) (hd : decode cc pc = .ok (.getstatic i, 3)) (hw : Cond.fieldLink own i "WhirlShafts" nm "[I" ∈ q_TW) (hZ : va_Z "WhirlShafts" nm "[I" (.ref (ad a)) A s s.heap) (k : q_Psi p l e R s m args below meth c cells slots Q D cA ad A nL (pc + 3) L (.ref a :: st) h) : q_Psi p l e R s m args below meth c cells slots Q D cA ad A nL pc L st h := by
  intro H locs ls hP hS hl
  exact va_gets hC.1 hC.2.1 hZ hS hC.2.2.2.1 (hC.2.2.2.2.1 _ hw) (fun _ q => q) hd (k H locs ls hP hS hl)
/-- a field's row: class D declares it as its place n, of type t -/
def q_fok (own : String) (i D n t : Nat) : Prop := ∀ c, q_sub c D = true → ∃ (C : String) (T : u_T), q_cn[c]? = some (C, T, q_nf c) ∧ n < q_nf c ∧ (∃ R0, (T n).1 = R0 ∧ Cond.fieldLink own i R0 (T n).2.1 (T n).2.2.1 ∈ q_TW) ∧ q_ft c n = t
def q_gv (h : q_S) (a n t : Nat) : Value := match t with
  | 0 => .int (h.1 a n)
  | 1 => .ref (q_rf a n)
  | _ => q_rv h.2.2
theorem qs_getf {i Dn n t a : Nat} (hC : q_Cx p l R s m args c D cA ad A X cc own nL) (hd : decode cc pc = .ok (.getfield i, 3)) (hf : q_fok own i Dn n t) (hs : q_sub (q_cls a) Dn = true)
    (k : q_Psi p l e R s m args below meth c cells slots Q D cA ad A nL (pc + 3) L (q_gv h a n t :: st) h) : q_Psi p l e R s m args below meth c cells slots Q D cA ad A nL pc L (.ref a :: st) h := by
  intro H locs ls hP hS hl
  obtain ⟨ha, ht, hc⟩ := q_sub_obj hs
  obtain ⟨C, T, hcn, hn, ⟨R0, hR0, hw⟩, hft⟩ := hf _ hs
  obtain ⟨C', T', ty0, hcn', hin, -, -⟩ := q_cn_ok _ hc
  have e1 := Option.some.inj (hcn.symm.trans hcn')
  obtain ⟨rfl, e2⟩ := Prod.mk.inj e1
  obtain ⟨rfl, -⟩ := Prod.mk.inj e2
  have he := q_w_at (ad := ad) (cA := cA) (h := h) ha
  rw [q_cell_obj ht] at he
  subst hR0
  refine va_get hC.1 hC.2.1 hC.2.2.2.2.1 hin hC.2.2.2.1 hC.2.2.2.2.2.2.2.1.1 hP a he hcn n hn (hC.2.2.2.2.1 _ hw) (fun _ q => q) (v := q_fv ad h a n) (by simp [hn]) hd ?_
  have hv : q_fv ad h a n = q_cv ad (q_gv h a n t) := by
    unfold q_fv q_gv
    rw [hft]
    rcases t with _ | _ | t <;> rfl
  rw [hv]
  exact k H locs ls hP hS hl

theorem qs_iald {a : Nat} {i : Int32} {f : Int32 → q_A} (hC : q_Cx p l R s m args c D cA ad A X cc own nL) (hd : decode cc pc = .ok (.iaload, 1)) (hr : q_ald X h a i f = some r) (k : ∀ x, f x = some r → q_Psi p l e R s m args below meth c cells slots Q D cA ad A nL (pc + 1) L (.int x :: st) h) : q_Psi p l e R s m args below meth c cells slots Q D cA ad A nL pc L (.int i :: .ref a :: st) h := by
  intro H locs ls hP hS hl
  rcases q_ty_cases a with ht | ht | ht | ht | ht | ht
  · simp only [q_ald, ht] at hr
    obtain ⟨hin, hr⟩ := q_ix_inv hr
    have he := q_w_at (ad := ad) (cA := cA) (h := h) (q_ty_lt ht (by decide) (by decide))
    rw [q_cell_i ht] at he
    exact va_iald hC.1 hC.2.1 hC.2.2.2.2.2.2.2.1.1 hP a 0 he rfl hin hd (k _ hr H locs ls hP hS hl)
  · simp [q_ald, ht] at hr
  · simp [q_ald, ht] at hr
  · simp [q_ald, ht] at hr
  · simp only [q_ald, ht] at hr
    cases hx : X a with
    | none => simp [hx] at hr
    | some nf =>
      obtain ⟨n, g⟩ := nf
      simp only [hx] at hr
      obtain ⟨hin, hr⟩ := q_ix_inv hr
      exact va_ti hC.1 hC.2.1 (hC.2.2.2.2.2.2.2.2 a n g hx) hS hin rfl hd (k _ hr H locs ls hP hS hl)
  · simp [q_ald, ht] at hr
theorem qs_lald {a : Nat} {i : Int32} (hC : q_Cx p l R s m args c D cA ad A X cc own nL) (hd : decode cc pc = .ok (.laload, 1)) (ht : q_ty a = 1) (hin : vp_in i (q_ln a)) (k : q_Psi p l e R s m args below meth c cells slots Q D cA ad A nL (pc + 1) L (.long (h.2.1 a i.toNatClampNeg) :: st) h) : q_Psi p l e R s m args below meth c cells slots Q D cA ad A nL pc L (.int i :: .ref a :: st) h := by
  intro H locs ls hP hS hl
  have he := q_w_at (ad := ad) (cA := cA) (h := h) (q_ty_lt ht (by decide) (by decide))
  rw [q_cell_l ht] at he
  exact va_lald hC.1 hC.2.1 hC.2.2.2.2.2.2.2.1.1 hP a 1 he rfl hin hd (k H locs ls hP hS hl)
theorem q_ak_ok (a : Nat) (ht : q_ty a = 2) (cA : Nat → ClassId) : ∃ ty : FieldType, (q_tys cA)[q_ak a]? = some (cA (q_ak a), ty) ∧ ty.isReference = true := by
  have : ∀ b, b < 102 → q_ty b = 2 → (q_ak b = 2 ∨ q_ak b = 3 ∨ q_ak b = 4) := by decide +kernel
  rcases this a (q_ty_lt ht (by decide) (by decide)) ht with e | e | e <;> rw [e]
  · exact ⟨_, rfl, rfl⟩
  · exact ⟨_, rfl, rfl⟩
  · exact ⟨_, rfl, rfl⟩
theorem qs_aald {a : Nat} {i : Int32} (hC : q_Cx p l R s m args c D cA ad A X cc own nL) (hd : decode cc pc = .ok (.aaload, 1)) (ht : q_ty a = 2) (hin : vp_in i (q_ln a)) (k : q_Psi p l e R s m args below meth c cells slots Q D cA ad A nL (pc + 1) L (.ref (q_rf a i.toNatClampNeg) :: st) h) : q_Psi p l e R s m args below meth c cells slots Q D cA ad A nL pc L (.int i :: .ref a :: st) h := by
  intro H locs ls hP hS hl
  have he := q_w_at (ad := ad) (cA := cA) (h := h) (q_ty_lt ht (by decide) (by decide))
  rw [q_cell_r ht] at he
  obtain ⟨ty, h1, h2⟩ := q_ak_ok a ht cA
  have hlt : i.toNatClampNeg < q_ln a := Nat.not_le.mp fun q => hin (Or.inr q)
  exact W.aald (v := .ref (ad (q_rf a i.toNatClampNeg))) (ty := ty) hC.1 hC.2.1 (hP a _ he) ((hC.2.2.2.2.2.2.2.1.1.2 _ _ h1).1 (q_ln a) (fun j => .ref (ad (q_rf a j)))) h2 (fun q => by cases q) (by show ¬ (i < 0 ∨ (arrV _ _ _).slots.size ≤ _); rw [arrV_size]; exact hin) (by show (arrV _ _ _).slots[_]? = _; rw [arrV_read _ _ hlt]; rfl) rfl rfl hd (k H locs ls hP hS hl)
theorem qs_iast {a : Nat} {i x : Int32} (hC : q_Cx p l R s m args c D cA ad A X cc own nL) (hd : decode cc pc = .ok (.iastore, 1)) (ht : q_ty a = 0) (hin : vp_in i (q_ln a)) (k : q_Psi p l e R s m args below meth c cells slots Q D cA ad A nL (pc + 1) L st (q_si h a i.toNatClampNeg x)) : q_Psi p l e R s m args below meth c cells slots Q D cA ad A nL pc L (.int x :: .int i :: .ref a :: st) h := by
  intro H locs ls hP hS hl
  have hlt := q_ty_lt ht (by decide) (by decide)
  have he := q_w_at (ad := ad) (cA := cA) (h := h) hlt
  rw [q_cell_i ht] at he
  refine va_iast hC.1 hC.2.1 hC.2.2.2.2.2.2.2.1.1 hP (hC.2.2.2.2.2.1 h) hS a 0 he rfl hin hd (fun H1 locs1 hP1 _ hS1 => ?_)
  rw [q_w_set (h' := q_si h a i.toNatClampNeg x) hlt ?_ (fun j _ hj => q_cell_si hj)] at hP1
  · exact k H1 locs1 ls hP1 hS1 hl
  · rw [q_cell_i ht]
    congr 4
    funext j
    simp [q_si, upd]
theorem qs_last {a : Nat} {i : Int32} {x : Int64} (hC : q_Cx p l R s m args c D cA ad A X cc own nL) (hd : decode cc pc = .ok (.lastore, 1)) (ht : q_ty a = 1) (hin : vp_in i (q_ln a)) (k : q_Psi p l e R s m args below meth c cells slots Q D cA ad A nL (pc + 1) L st (q_sl h a i.toNatClampNeg x)) : q_Psi p l e R s m args below meth c cells slots Q D cA ad A nL pc L (.long x :: .int i :: .ref a :: st) h := by
  intro H locs ls hP hS hl
  have hlt := q_ty_lt ht (by decide) (by decide)
  have he := q_w_at (ad := ad) (cA := cA) (h := h) hlt
  rw [q_cell_l ht] at he
  refine va_last hC.1 hC.2.1 hC.2.2.2.2.2.2.2.1.1 hP (hC.2.2.2.2.2.1 h) hS a 1 he rfl hin hd (fun H1 locs1 hP1 _ hS1 => ?_)
  rw [q_w_set (h' := q_sl h a i.toNatClampNeg x) hlt ?_ (fun j _ hj => q_cell_sl hj)] at hP1
  · exact k H1 locs1 ls hP1 hS1 hl
  · rw [q_cell_l ht]
    congr 5
    funext j
    simp [q_sl, vp_updL]
theorem qs_alen {a : Nat} {f : Int32 → q_A} (hC : q_Cx p l R s m args c D cA ad A X cc own nL) (hd : decode cc pc = .ok (.arraylength, 1)) (hr : q_len X a f = some r) (k : ∀ x, f x = some r → q_Psi p l e R s m args below meth c cells slots Q D cA ad A nL (pc + 1) L (.int x :: st) h) : q_Psi p l e R s m args below meth c cells slots Q D cA ad A nL pc L (.ref a :: st) h := by
  intro H locs ls hP hS hl
  rcases q_ty_cases a with ht | ht | ht | ht | ht | ht
  · simp only [q_len, ht] at hr
    have he := q_w_at (ad := ad) (cA := cA) (h := h) (q_ty_lt ht (by decide) (by decide))
    rw [q_cell_i ht] at he
    exact va_alen hC.1 hC.2.1 hC.2.2.2.2.2.2.2.1.1 hP a 0 he rfl rfl hd (k _ hr H locs ls hP hS hl)
  · simp only [q_len, ht] at hr
    have he := q_w_at (ad := ad) (cA := cA) (h := h) (q_ty_lt ht (by decide) (by decide))
    rw [q_cell_l ht] at he
    exact va_alen hC.1 hC.2.1 hC.2.2.2.2.2.2.2.1.1 hP a 1 he rfl rfl hd (k _ hr H locs ls hP hS hl)
  · simp only [q_len, ht] at hr
    have he := q_w_at (ad := ad) (cA := cA) (h := h) (q_ty_lt ht (by decide) (by decide))
    rw [q_cell_r ht] at he
    obtain ⟨ty, h1, h2⟩ := q_ak_ok a ht cA
    exact va_alen hC.1 hC.2.1 hC.2.2.2.2.2.2.2.1.1 hP a _ he h1 rfl hd (k _ hr H locs ls hP hS hl)
  · simp [q_len, ht] at hr
  · simp only [q_len, ht] at hr
    cases hx : X a with
    | none => simp [hx] at hr
    | some nf =>
      obtain ⟨n, g⟩ := nf
      simp only [hx] at hr
      exact va_tlen hC.1 hC.2.1 (hC.2.2.2.2.2.2.2.2 a n g hx) hS rfl hd (k _ hr H locs ls hP hS hl)
  · simp [q_len, ht] at hr

/-- a field that may be written -/
def q_pok (own : String) (i Dn n : Nat) (ty : FieldType) : Prop := ∀ c, q_sub c Dn = true → ∃ (C : String) (T : u_T), q_cn[c]? = some (C, T, q_nf c) ∧ n < q_nf c ∧ (∃ R0, (T n).1 = R0 ∧ Cond.fieldLink own i R0 (T n).2.1 (T n).2.2.1 ∈ q_TW) ∧ (T n).2.2.2 = false ∧ parseFieldDescriptor (T n).2.2.1 = some ty ∧ (match ty with | .int => q_ft c n = 0 | .boolean => q_ft c n = 0 | _ => q_ft c n = 2)
theorem qs_putf {i Dn n a : Nat} {ty : FieldType} {v : Value} {h' : q_S} (hC : q_Cx p l R s m args c D cA ad A X cc own nL) (hd : decode cc pc = .ok (.putfield i, 3)) (hf : q_pok own i Dn n ty) (hs : q_sub (q_cls a) Dn = true) (hnar : narrow ty (q_cv ad v) = q_cv ad v) (hfit : fits ty (q_cv ad v) = true)
    (h1 : q_fv ad h' a n = q_cv ad v) (h2 : ∀ j, j < q_nf (q_cls a) → j ≠ n → q_fv ad h' a j = q_fv ad h a j) (h3 : ∀ j, j < 102 → j ≠ a → q_cell ad cA h' j = q_cell ad cA h j) (k : q_Psi p l e R s m args below meth c cells slots Q D cA ad A nL (pc + 3) L st h') : q_Psi p l e R s m args below meth c cells slots Q D cA ad A nL pc L (v :: .ref a :: st) h := by
  intro H locs ls hP hS hl
  obtain ⟨ha, ht, hc⟩ := q_sub_obj hs
  obtain ⟨C, T, hcn, hn, ⟨R0, hR0, hw⟩, hfin, hty, -⟩ := hf _ hs
  obtain ⟨C', T', ty0, hcn', hin, htys, hnm⟩ := q_cn_ok _ hc
  have e1 := Option.some.inj (hcn.symm.trans hcn')
  obtain ⟨rfl, e2⟩ := Prod.mk.inj e1
  obtain ⟨rfl, -⟩ := Prod.mk.inj e2
  have he := q_w_at (ad := ad) (cA := cA) (h := h) ha
  rw [q_cell_obj ht] at he
  subst hR0
  refine va_put hC.1 hC.2.1 hC.2.2.2.2.1 hin ty0 htys hnm hC.2.2.2.1 hC.2.2.2.2.2.2.2.1.1 hP (hC.2.2.2.2.2.1 h) hS a he hcn n hn (hC.2.2.2.2.1 _ hw) (fun _ q => q) hfin hty hnar hfit (by simp [hn]) hd (fun H1 locs1 hP1 _ hS1 => ?_)
  rw [q_w_set (h' := h') ha ?_ h3] at hP1
  · exact k H1 locs1 ls hP1 hS1 hl
  · rw [q_cell_obj ht, q_range_set h1 h2]
theorem qs_puti {i Dn n a : Nat} {x : Int32} (hC : q_Cx p l R s m args c D cA ad A X cc own nL) (hd : decode cc pc = .ok (.putfield i, 3)) (hf : q_pok own i Dn n .int) (hs : q_sub (q_cls a) Dn = true) (k : q_Psi p l e R s m args below meth c cells slots Q D cA ad A nL (pc + 3) L st (q_si h a n x)) : q_Psi p l e R s m args below meth c cells slots Q D cA ad A nL pc L (.int x :: .ref a :: st) h := by
  obtain ⟨C, T, hcn, hn, -, -, -, hft⟩ := hf _ hs
  refine qs_putf hC hd hf hs rfl rfl ?_ (fun j hjn hj => ?_) (fun j _ hj => q_cell_si hj) k
  · unfold q_fv
    rw [show q_ft (q_cls a) n = 0 from hft]
    simp [q_si, q_cv]
  · unfold q_fv
    simp [q_si, hj]
theorem qs_putz {i Dn n a : Nat} {x : Int32} (hC : q_Cx p l R s m args c D cA ad A X cc own nL) (hd : decode cc pc = .ok (.putfield i, 3)) (hf : q_pok own i Dn n .boolean) (hs : q_sub (q_cls a) Dn = true) (hx : x = 0 ∨ x = 1) (k : q_Psi p l e R s m args below meth c cells slots Q D cA ad A nL (pc + 3) L st (q_si h a n x)) : q_Psi p l e R s m args below meth c cells slots Q D cA ad A nL pc L (.int x :: .ref a :: st) h := by
  obtain ⟨C, T, hcn, hn, -, -, -, hft⟩ := hf _ hs
  refine qs_putf hC hd hf hs ?_ ?_ ?_ (fun j hjn hj => ?_) (fun j _ hj => q_cell_si hj) k
  · rcases hx with rfl | rfl <;> rfl
  · rcases hx with rfl | rfl <;> rfl
  · unfold q_fv
    rw [show q_ft (q_cls a) n = 0 from hft]
    simp [q_si, q_cv]
  · unfold q_fv
    simp [q_si, hj]
/-- the one field that moves: it is object 0's, and the only one of its type -/
theorem q_ft2 {a j : Nat} (h : q_ft (q_cls a) j ≠ 0) (h2 : q_ft (q_cls a) j ≠ 1) (hc : q_cls a < 13) (hj : j < q_nf (q_cls a)) : a = 0 ∧ j = 1 := by
  have t1 : ∀ c, c < 13 → ∀ i, i < 47 → i < q_nf c → (q_ft c i = 0 ∨ q_ft c i = 1 ∨ q_ft c i = 2) := by decide +kernel
  have t2 : ∀ b, b < 102 → ∀ i, i < 47 → q_ft (q_cls b) i = 2 → (b = 0 ∧ i = 1) := by decide +kernel
  have hl : a < 102 := (q_cls_obj (by omega)).1
  have hn : ∀ c, c < 13 → q_nf c ≤ 47 := by decide +kernel
  have hj47 := Nat.lt_of_lt_of_le hj (hn _ hc)
  rcases t1 _ hc j hj47 hj with e | e | e
  · exact absurd e h
  · exact absurd e h2
  · exact t2 a hl j hj47 e
theorem q_map_congr {N : Nat} {f g : Nat → Value} (h : ∀ j, j < N → f j = g j) : (List.range N).map f = (List.range N).map g := List.map_congr_left (fun j hj => h j (List.mem_range.mp hj))
theorem q_fv_dyn {ad : Nat → Nat} {h : q_S} {a j : Nat} {z : Option Nat} (ha : a ≠ 0) (hc : q_cls a < 13) (hj : j < q_nf (q_cls a)) : q_fv ad (h.1, h.2.1, z) a j = q_fv ad h a j := by
  unfold q_fv
  by_cases h0 : q_ft (q_cls a) j = 0
  · rw [h0]
    rfl
  · by_cases h1 : q_ft (q_cls a) j = 1
    · rw [h1]
      rfl
    · exact absurd (q_ft2 h0 h1 hc hj).1 ha
theorem q_cell_dyn {ad : Nat → Nat} {cA : Nat → ClassId} {h : q_S} {j : Nat} {z : Option Nat} (hl : j < 102) (hj : j ≠ 0) : q_cell ad cA (h.1, h.2.1, z) j = q_cell ad cA h j := by
  rcases q_ty_cases j with ht | ht | ht | ht | ht | ht
  · rw [q_cell_i ht, q_cell_i ht]
  · rw [q_cell_l ht, q_cell_l ht]
  · rw [q_cell_r ht, q_cell_r ht]
  · rw [q_cell_obj ht, q_cell_obj ht]
    have hlt := q_ty_lt ht (by decide) (by decide)
    have : ∀ b, b < 102 → q_ty b = 3 → q_cls b < 13 := by decide +kernel
    have hc := this j hlt ht
    rw [q_map_congr (fun k hk => q_fv_dyn hj hc hk)]
  · have : ∀ b, b < 102 → q_ty b ≠ 4 := by decide +kernel
    exact absurd ht (this j hl)
  · have : ∀ b, b < 102 → q_ty b ≠ 9 := by decide +kernel
    exact absurd ht (this j hl)
theorem qs_putd {i Dn n a b : Nat} (hC : q_Cx p l R s m args c D cA ad A X cc own nL) (hd : decode cc pc = .ok (.putfield i, 3)) (hf : q_pok own i Dn n (.object "WhirlShafts$Disc")) (hs : q_sub (q_cls a) Dn = true) (k : q_Psi p l e R s m args below meth c cells slots Q D cA ad A nL (pc + 3) L st (h.1, h.2.1, some b)) : q_Psi p l e R s m args below meth c cells slots Q D cA ad A nL pc L (.ref b :: .ref a :: st) h := by
  obtain ⟨C, T, hcn, hn, -, -, -, hft⟩ := hf _ hs
  have hft : q_ft (q_cls a) n = 2 := hft
  obtain ⟨ha, ht, hc⟩ := q_sub_obj hs
  have h01 := q_ft2 (a := a) (j := n) (by rw [hft]; decide) (by rw [hft]; decide) hc hn
  obtain ⟨rfl, rfl⟩ := h01
  refine qs_putf hC hd hf hs rfl rfl ?_ (fun j hjn hj => ?_) (fun j hl hj => q_cell_dyn hl hj) k
  · unfold q_fv
    rw [hft]
    rfl
  · have : ∀ i, i < 12 → i ≠ 1 → (q_ft (q_cls 0) i = 0 ∨ q_ft (q_cls 0) i = 1) := by decide +kernel
    unfold q_fv
    rcases this j hjn hj with e0 | e0
    · rw [e0]
      rfl
    · rw [e0]
      rfl
theorem qs_arc {a b : Nat} {sp dp n : Int32} {i : Nat} {f : q_S → q_A} (hC : q_Cx p l R s m args c D cA ad A X cc own nL) (hd : decode cc pc = .ok (.invokestatic i, 3)) (hw : Cond.methodLink own i arraycopyName ∈ q_TW) (hr : q_arc h a sp b dp n f = some r) (hfr : 1 ≤ R.frames) (hlo : 26 ≤ R.locals) (hst : q_ca st ≤ 8)
    (k : ∀ h', f h' = some r → q_Psi p l e R s m args below meth c cells slots Q D cA ad A nL (pc + 3) L st h') : q_Psi p l e R s m args below meth c cells slots Q D cA ad A nL pc L (.int n :: .int dp :: .ref b :: .int sp :: .ref a :: st) h := by
  intro H locs ls hP hS hl
  unfold q_arc at hr
  split at hr
  · cases hr
  · rename_i hg
    have hg1 : ¬ sp < 0 := fun q => hg (Or.inl q)
    have hg2 : ¬ dp < 0 := fun q => hg (Or.inr (Or.inl q))
    have hg3 : ¬ n < 0 := fun q => hg (Or.inr (Or.inr (Or.inl q)))
    have hg4 : sp.toNatClampNeg + n.toNatClampNeg ≤ q_ln a := Nat.not_lt.mp fun q => hg (Or.inr (Or.inr (Or.inr (Or.inl q))))
    have hg5 : dp.toNatClampNeg + n.toNatClampNeg ≤ q_ln b := Nat.not_lt.mp fun q => hg (Or.inr (Or.inr (Or.inr (Or.inr q))))
    have hml : c.maxLocals = ls.size := hC.2.2.1.trans hl.1.symm
    have hnat := hC.2.2.2.2.1 (.native arraycopyName) q_w_nat
    have hsta := hC.2.2.2.2.1 (.static arraycopyName) q_w_sta
    have hini := hC.2.2.2.2.1 (.initialized "java/lang/System") q_w_sys
    have hloc : ((st.map (q_cv ad)).map fun v => v.category).sum + (nativeFrameWords "java/lang/System" "arraycopy" 5 + 11) ≤ R.locals := by
      rw [q_ca_sum]
      have : nativeFrameWords "java/lang/System" "arraycopy" 5 = 7 := by decide +kernel
      omega
    split at hr
    · rename_i hta htb
      have la := q_ty_lt hta (by decide) (by decide)
      have lb := q_ty_lt htb (by decide) (by decide)
      have hea := q_w_at (ad := ad) (cA := cA) (h := h) la
      have heb := q_w_at (ad := ad) (cA := cA) (h := h) lb
      rw [q_cell_i hta] at hea
      rw [q_cell_i htb] at heb
      refine va_copyi hC.1 hC.2.1 hml hC.2.2.2.1 (hC.2.2.2.2.1 _ hw) hnat hsta hini hC.2.2.2.2.2.2.2.1.1 hP (hC.2.2.2.2.2.1 h) hS a b 0 0 hea heb rfl rfl rfl hg1 hg2 hg3 hg4 hg5 (fun _ _ => rfl) hfr hloc hd (fun H1 locs1 hP1 _ hS1 => ?_)
      rw [q_w_set (h' := q_cpi h a sp.toNatClampNeg b dp.toNatClampNeg n.toNatClampNeg) lb ?_ (fun j _ hj => q_cell_cpi hj)] at hP1
      · exact k _ hr H1 locs1 ls hP1 hS1 hl
      · rw [q_cell_i htb]
        congr 4
        funext j
        simp [q_cpi]
    · rename_i hta htb
      have la := q_ty_lt hta (by decide) (by decide)
      have lb := q_ty_lt htb (by decide) (by decide)
      have hea := q_w_at (ad := ad) (cA := cA) (h := h) la
      have heb := q_w_at (ad := ad) (cA := cA) (h := h) lb
      rw [q_cell_l hta] at hea
      rw [q_cell_l htb] at heb
      refine va_copyl hC.1 hC.2.1 hml hC.2.2.2.1 (hC.2.2.2.2.1 _ hw) hnat hsta hini hC.2.2.2.2.2.2.2.1.1 hP (hC.2.2.2.2.2.1 h) hS a b 1 1 hea heb rfl rfl rfl hg1 hg2 hg3 hg4 hg5 (fun _ _ => rfl) hfr hloc hd (fun H1 locs1 hP1 _ hS1 => ?_)
      rw [q_w_set (h' := q_cpl h a sp.toNatClampNeg b dp.toNatClampNeg n.toNatClampNeg) lb ?_ (fun j _ hj => q_cell_cpl hj)] at hP1
      · exact k _ hr H1 locs1 ls hP1 hS1 hl
      · rw [q_cell_l htb]
        congr 5
        funext j
        simp [q_cpl]
    · cases hr

end QH
end
section
/-! ===== the methods by number ===== -/
def q_nmL : List MethodName := [⟨"WhirlShafts$Changes", "forget", "()V"⟩, ⟨"WhirlShafts$Changes", "add", "(IIII)V"⟩, ⟨"WhirlShafts$Changes", "forgetEldest", "()V"⟩, ⟨"WhirlShafts$Changes", "stepBack", "(LWhirlShafts$Line;)I"⟩, ⟨"WhirlShafts$Changes", "stepOn", "(LWhirlShafts$Line;)I"⟩, ⟨"WhirlShafts$Crown", "weighs", "(II)I"⟩, ⟨"WhirlShafts$Crown", "tells", "(I)I"⟩, ⟨"WhirlShafts$Crown", "spins", "(I)I"⟩, ⟨"WhirlShafts$Disc", "begin", "(II)V"⟩, ⟨"WhirlShafts$Disc", "note", "(I)V"⟩, ⟨"WhirlShafts$Disc", "weighs", "(II)I"⟩, ⟨"WhirlShafts$Disc", "spins", "(I)I"⟩, ⟨"WhirlShafts$Disc", "swings", "(I)I"⟩, ⟨"WhirlShafts$Disc", "tells", "(I)I"⟩, ⟨"WhirlShafts$Hub", "weighs", "(II)I"⟩, ⟨"WhirlShafts$Hub", "spins", "(I)I"⟩, ⟨"WhirlShafts$Line", "takeFrom", "(LWhirlShafts$Line;)V"⟩, ⟨"WhirlShafts$Line", "join", "(III)I"⟩, ⟨"WhirlShafts$Line", "swap", "(I)V"⟩, ⟨"WhirlShafts$Line", "hasDisc", "(I)Z"⟩, ⟨"WhirlShafts$Line", "hasShaft", "(I)Z"⟩, ⟨"WhirlShafts$Line", "hasPlace", "(II)Z"⟩, ⟨"WhirlShafts$Line", "refusal", "(III)I"⟩, ⟨"WhirlShafts$Line", "told", "(II)I"⟩, ⟨"WhirlShafts$Line", "tell", "(III)V"⟩, ⟨"WhirlShafts$Line", "ratios", "(I)I"⟩, ⟨"WhirlShafts$Line", "ratiosBut", "(I)I"⟩, ⟨"WhirlShafts$Line", "factor", "(I)I"⟩, ⟨"WhirlShafts$Line", "weight", "(I)I"⟩, ⟨"WhirlShafts$Line", "reducedInertia", "(I)I"⟩, ⟨"WhirlShafts$Line", "reducedBearing", "(I)I"⟩, ⟨"WhirlShafts$Line", "reducedStiff", "(I)I"⟩, ⟨"WhirlShafts$Line", "holds", "(I)I"⟩, ⟨"WhirlShafts$Line", "reducesLike", "(LWhirlShafts$Line;)Z"⟩, ⟨"WhirlShafts$Orders", "add", "(III)I"⟩, ⟨"WhirlShafts$Orders", "takeFrom", "(LWhirlShafts$Orders;)V"⟩, ⟨"WhirlShafts$Rates", "take", "(LWhirlShafts$Line;)V"⟩, ⟨"WhirlShafts$Rates", "belowAll", "(II)I"⟩, ⟨"WhirlShafts$Rates", "belowPart", "(IIII)I"⟩, ⟨"WhirlShafts$Rates", "addRow", "(IJJ)V"⟩, ⟨"WhirlShafts$Rates", "signOfRow", "(I)I"⟩, ⟨"WhirlShafts$Rates", "restOfRow", "(I)I"⟩, ⟨"WhirlShafts$Rates", "highest", "()I"⟩, ⟨"WhirlShafts$Rates", "fenceOf", "(II)I"⟩, ⟨"WhirlShafts$Rates", "fenceIs", "(IIJ)Z"⟩, ⟨"WhirlShafts$Rates", "between", "(III)I"⟩, ⟨"WhirlShafts$Rim", "weighs", "(II)I"⟩, ⟨"WhirlShafts$Rim", "swings", "(I)I"⟩, ⟨"WhirlShafts$Row", "isMissing", "()Z"⟩, ⟨"WhirlShafts$Row", "become", "(II)V"⟩, ⟨"WhirlShafts$Row", "hasPlace", "(I)Z"⟩, ⟨"WhirlShafts$Row", "hasSpan", "(II)Z"⟩, ⟨"WhirlShafts$Row", "store", "(IJ)V"⟩, ⟨"WhirlShafts$Shell", "weighs", "(II)I"⟩, ⟨"WhirlShafts$Shell", "swings", "(I)I"⟩, ⟨"WhirlShafts$Tape", "add", "(I)I"⟩, ⟨"WhirlShafts$Tape", "numbersBehind", "(I)I"⟩, ⟨"WhirlShafts$Tape", "isFigure", "(I)Z"⟩, ⟨"WhirlShafts$Tape", "fault", "()I"⟩, ⟨"WhirlShafts$Tape", "nextAct", "()I"⟩, ⟨"WhirlShafts$Tape", "nextNumber", "()I"⟩, ⟨"WhirlShafts", "disc", "(III)I"⟩, ⟨"WhirlShafts", "cut", "()I"⟩, ⟨"WhirlShafts", "clear", "()I"⟩, ⟨"WhirlShafts", "set", "(III)I"⟩, ⟨"WhirlShafts", "of", "(II)I"⟩, ⟨"WhirlShafts", "below", "(II)I"⟩, ⟨"WhirlShafts", "isRate", "(II)I"⟩, ⟨"WhirlShafts", "sign", "(III)I"⟩, ⟨"WhirlShafts", "nodes", "(II)I"⟩, ⟨"WhirlShafts", "rest", "(III)I"⟩, ⟨"WhirlShafts", "top", "()I"⟩, ⟨"WhirlShafts", "fence", "(II)I"⟩, ⟨"WhirlShafts", "held", "(III)I"⟩, ⟨"WhirlShafts", "band", "(III)I"⟩, ⟨"WhirlShafts", "gap", "(II)I"⟩, ⟨"WhirlShafts", "trim", "(IIIII)I"⟩, ⟨"WhirlShafts", "tune", "(IIII)I"⟩, ⟨"WhirlShafts", "heavier", "(III)I"⟩, ⟨"WhirlShafts", "change", "(II)I"⟩, ⟨"WhirlShafts", "critical", "(I)I"⟩, ⟨"WhirlShafts", "fits", "(IIIII)I"⟩, ⟨"WhirlShafts", "judge", "(II)I"⟩, ⟨"WhirlShafts", "order", "(III)I"⟩, ⟨"WhirlShafts", "tried", "(II)I"⟩, ⟨"WhirlShafts", "does", "()I"⟩, ⟨"WhirlShafts", "drop", "()I"⟩, ⟨"WhirlShafts", "undo", "()I"⟩, ⟨"WhirlShafts", "redo", "()I"⟩, ⟨"WhirlShafts", "feed", "(I)I"⟩, ⟨"WhirlShafts", "wipe", "()I"⟩, ⟨"WhirlShafts", "read", "()I"⟩, ⟨"WhirlShafts", "row", "(III)I"⟩, ⟨"WhirlShafts", "put", "(IIJ)I"⟩, ⟨"WhirlShafts", "get", "(II)J"⟩, ⟨"WhirlShafts", "film", "(III)I"⟩, ⟨"WhirlShafts", "copy", "(IIIII)I"⟩, ⟨"WhirlShafts", "act", "(III)I"⟩, ⟨"WhirlShafts", "trace", "(I)I"⟩, ⟨"WhirlShafts", "taken", "(II)I"⟩, ⟨"WhirlShafts", "image", "()I"⟩, ⟨"WhirlShafts", "alike", "()I"⟩, ⟨"WhirlShafts", "back", "()I"⟩, ⟨"WhirlShafts", "count", "(I)I"⟩, ⟨"WhirlShafts", "isKind", "(I)Z"⟩, ⟨"WhirlShafts", "inRange", "(II)Z"⟩, ⟨"WhirlShafts", "isQ", "(I)Z"⟩, ⟨"WhirlShafts", "isPoint", "(II)Z"⟩, ⟨"WhirlShafts", "isBand", "(III)Z"⟩, ⟨"WhirlShafts", "isRow", "(I)Z"⟩, ⟨"WhirlShafts", "isUnder", "(II)Z"⟩, ⟨"WhirlShafts", "rowsThere", "()I"⟩, ⟨"WhirlShafts", "fenceBy", "(LWhirlShafts$Line;II)I"⟩, ⟨"WhirlShafts", "fenceByMass", "(IIII)I"⟩, ⟨"WhirlShafts", "leastMassWithin", "(IIII)I"⟩, ⟨"WhirlShafts", "trialFits", "(LWhirlShafts$Row;II)Z"⟩, ⟨"WhirlShafts", "massesThatFit", "(LWhirlShafts$Row;IIIZ)I"⟩, ⟨"WhirlShafts", "kindsThatFit", "(LWhirlShafts$Row;III)I"⟩, ⟨"WhirlShafts", "doActs", "()I"⟩, ⟨"WhirlShafts", "doAct", "(I)I"⟩, ⟨"WhirlShaftsModel", "isIn", "(III)Z"⟩, ⟨"WhirlShaftsModel", "isDisc", "(I)Z"⟩, ⟨"WhirlShaftsModel", "isShaft", "(I)Z"⟩, ⟨"WhirlShaftsModel", "isBy", "(I)Z"⟩, ⟨"WhirlShaftsModel", "isRateOf", "(II)Z"⟩, ⟨"WhirlShaftsModel", "weighs", "(I)I"⟩, ⟨"WhirlShaftsModel", "reduces", "()V"⟩, ⟨"WhirlShaftsModel", "turnsInAll", "()I"⟩, ⟨"WhirlShaftsModel", "signAt", "(I)I"⟩, ⟨"WhirlShaftsModel", "restOf", "(J)I"⟩, ⟨"WhirlShaftsModel", "transfer", "(IIII)I"⟩, ⟨"WhirlShaftsModel", "belowAll", "(II)I"⟩, ⟨"WhirlShaftsModel", "topNow", "()I"⟩, ⟨"WhirlShaftsModel", "fenceOf", "(II)I"⟩, ⟨"WhirlShaftsModel", "forgetsChanges", "()V"⟩, ⟨"WhirlShaftsModel", "disc", "(III)I"⟩, ⟨"WhirlShaftsModel", "cut", "()I"⟩, ⟨"WhirlShaftsModel", "clear", "()I"⟩, ⟨"WhirlShaftsModel", "is", "(II)I"⟩, ⟨"WhirlShaftsModel", "becomes", "(III)V"⟩, ⟨"WhirlShaftsModel", "isOne", "(II)Z"⟩, ⟨"WhirlShaftsModel", "leastOf", "(I)I"⟩, ⟨"WhirlShaftsModel", "mostOf", "(I)I"⟩, ⟨"WhirlShaftsModel", "refuses", "(III)I"⟩, ⟨"WhirlShaftsModel", "notes", "(IIII)V"⟩, ⟨"WhirlShaftsModel", "set", "(III)I"⟩, ⟨"WhirlShaftsModel", "undo", "()I"⟩, ⟨"WhirlShaftsModel", "redo", "()I"⟩, ⟨"WhirlShaftsModel", "of", "(II)I"⟩, ⟨"WhirlShaftsModel", "below", "(II)I"⟩, ⟨"WhirlShaftsModel", "isRate", "(II)I"⟩, ⟨"WhirlShaftsModel", "sign", "(III)I"⟩, ⟨"WhirlShaftsModel", "nodes", "(II)I"⟩, ⟨"WhirlShaftsModel", "rest", "(III)I"⟩, ⟨"WhirlShaftsModel", "top", "()I"⟩, ⟨"WhirlShaftsModel", "isFenced", "(II)Z"⟩, ⟨"WhirlShaftsModel", "fence", "(II)I"⟩, ⟨"WhirlShaftsModel", "held", "(III)I"⟩, ⟨"WhirlShaftsModel", "isBand", "(III)Z"⟩, ⟨"WhirlShaftsModel", "bandOf", "(III)I"⟩, ⟨"WhirlShaftsModel", "band", "(III)I"⟩, ⟨"WhirlShaftsModel", "gap", "(II)I"⟩, ⟨"WhirlShaftsModel", "trim", "(IIIII)I"⟩, ⟨"WhirlShaftsModel", "tune", "(IIII)I"⟩, ⟨"WhirlShaftsModel", "heavier", "(III)I"⟩, ⟨"WhirlShaftsModel", "swaps", "(I)V"⟩, ⟨"WhirlShaftsModel", "change", "(II)I"⟩, ⟨"WhirlShaftsModel", "critical", "(I)I"⟩, ⟨"WhirlShaftsModel", "isRow", "(I)Z"⟩, ⟨"WhirlShaftsModel", "narrow", "(IJ)J"⟩, ⟨"WhirlShaftsModel", "row", "(III)I"⟩, ⟨"WhirlShaftsModel", "put", "(IIJ)I"⟩, ⟨"WhirlShaftsModel", "get", "(II)J"⟩, ⟨"WhirlShaftsModel", "film", "(III)I"⟩, ⟨"WhirlShaftsModel", "copy", "(IIIII)I"⟩, ⟨"WhirlShaftsModel", "isSo", "(III)Z"⟩, ⟨"WhirlShaftsModel", "fits", "(IIIII)I"⟩, ⟨"WhirlShaftsModel", "fittingKinds", "(IIII)I"⟩, ⟨"WhirlShaftsModel", "fittingMasses", "(IIIII)I"⟩, ⟨"WhirlShaftsModel", "judge", "(II)I"⟩, ⟨"WhirlShaftsModel", "order", "(III)I"⟩, ⟨"WhirlShaftsModel", "tried", "(II)I"⟩, ⟨"WhirlShaftsModel", "does", "()I"⟩, ⟨"WhirlShaftsModel", "drop", "()I"⟩, ⟨"WhirlShaftsModel", "feed", "(I)I"⟩, ⟨"WhirlShaftsModel", "wipe", "()I"⟩, ⟨"WhirlShaftsModel", "next", "()I"⟩, ⟨"WhirlShaftsModel", "numbersOf", "(I)I"⟩, ⟨"WhirlShaftsModel", "number", "()I"⟩, ⟨"WhirlShaftsModel", "reads", "()Z"⟩, ⟨"WhirlShaftsModel", "readsAll", "()Z"⟩, ⟨"WhirlShaftsModel", "done", "(I)I"⟩, ⟨"WhirlShaftsModel", "read", "()I"⟩, ⟨"WhirlShaftsModel", "note", "(I)V"⟩, ⟨"WhirlShaftsModel", "spins", "(II)I"⟩, ⟨"WhirlShaftsModel", "swings", "(II)I"⟩, ⟨"WhirlShaftsModel", "tells", "(II)I"⟩, ⟨"WhirlShaftsModel", "act", "(III)I"⟩, ⟨"WhirlShaftsModel", "trace", "(I)I"⟩, ⟨"WhirlShaftsModel", "taken", "(II)I"⟩, ⟨"WhirlShaftsModel", "passOne", "(I)I"⟩, ⟨"WhirlShaftsModel", "passes", "([I)V"⟩, ⟨"WhirlShaftsModel", "passesAll", "(IZ)V"⟩, ⟨"WhirlShaftsModel", "image", "()I"⟩, ⟨"WhirlShaftsModel", "alike", "()I"⟩, ⟨"WhirlShaftsModel", "back", "()I"⟩, ⟨"WhirlShaftsModel", "rowsThere", "()I"⟩, ⟨"WhirlShaftsModel", "count", "(I)I"⟩, ⟨"java/lang/Math", "max", "(II)I"⟩, ⟨"java/lang/Math", "floorMod", "(JJ)J"⟩, ⟨"java/lang/Math", "max", "(JJ)J"⟩]
def q_yn (y : Nat) : MethodName := (q_nmL[y]?).getD ⟨"", "", ""⟩
def q_ccL : List ByteArray := [prog_2_method_2_code, prog_2_method_3_code, prog_2_method_4_code, prog_2_method_5_code, prog_2_method_6_code, prog_3_method_2_code, prog_3_method_3_code, prog_3_method_4_code, prog_4_method_2_code, prog_4_method_3_code, prog_4_method_4_code, prog_4_method_5_code, prog_4_method_6_code, prog_4_method_7_code, prog_5_method_2_code, prog_5_method_3_code, prog_6_method_2_code, prog_6_method_3_code, prog_6_method_4_code, prog_6_method_5_code, prog_6_method_6_code, prog_6_method_7_code, prog_6_method_8_code, prog_6_method_9_code, prog_6_method_10_code, prog_6_method_11_code, prog_6_method_12_code, prog_6_method_13_code, prog_6_method_14_code, prog_6_method_15_code, prog_6_method_16_code, prog_6_method_17_code, prog_6_method_18_code, prog_6_method_19_code, prog_7_method_2_code, prog_7_method_3_code, prog_8_method_2_code, prog_8_method_3_code, prog_8_method_4_code, prog_8_method_5_code, prog_8_method_6_code, prog_8_method_7_code, prog_8_method_8_code, prog_8_method_9_code, prog_8_method_10_code, prog_8_method_11_code, prog_9_method_2_code, prog_9_method_3_code, prog_10_method_2_code, prog_10_method_3_code, prog_10_method_4_code, prog_10_method_5_code, prog_10_method_6_code, prog_11_method_2_code, prog_11_method_3_code, prog_12_method_2_code, prog_12_method_3_code, prog_12_method_4_code, prog_12_method_5_code, prog_12_method_6_code, prog_12_method_7_code, prog_1_method_2_code, prog_1_method_3_code, prog_1_method_4_code, prog_1_method_5_code, prog_1_method_6_code, prog_1_method_7_code, prog_1_method_8_code, prog_1_method_9_code, prog_1_method_10_code, prog_1_method_11_code, prog_1_method_12_code, prog_1_method_13_code, prog_1_method_14_code, prog_1_method_15_code, prog_1_method_16_code, prog_1_method_17_code, prog_1_method_18_code, prog_1_method_19_code, prog_1_method_20_code, prog_1_method_21_code, prog_1_method_22_code, prog_1_method_23_code, prog_1_method_24_code, prog_1_method_25_code, prog_1_method_26_code, prog_1_method_27_code, prog_1_method_28_code, prog_1_method_29_code, prog_1_method_30_code, prog_1_method_31_code, prog_1_method_32_code, prog_1_method_33_code, prog_1_method_34_code, prog_1_method_35_code, prog_1_method_36_code, prog_1_method_37_code, prog_1_method_38_code, prog_1_method_39_code, prog_1_method_40_code, prog_1_method_41_code, prog_1_method_42_code, prog_1_method_43_code, prog_1_method_44_code, prog_1_method_45_code, prog_1_method_46_code, prog_1_method_47_code, prog_1_method_48_code, prog_1_method_49_code, prog_1_method_50_code, prog_1_method_51_code, prog_1_method_52_code, prog_1_method_53_code, prog_1_method_54_code, prog_1_method_55_code, prog_1_method_56_code, prog_1_method_57_code, prog_1_method_58_code, prog_1_method_59_code, prog_1_method_60_code, prog_14_method_2_code, prog_14_method_3_code, prog_14_method_4_code, prog_14_method_5_code, prog_14_method_6_code, prog_14_method_7_code, prog_14_method_8_code, prog_14_method_9_code, prog_14_method_10_code, prog_14_method_11_code, prog_14_method_12_code, prog_14_method_13_code, prog_14_method_14_code, prog_14_method_15_code, prog_14_method_16_code, prog_14_method_17_code, prog_14_method_18_code, prog_14_method_19_code, prog_14_method_20_code, prog_14_method_21_code, prog_14_method_22_code, prog_14_method_23_code, prog_14_method_24_code, prog_14_method_25_code, prog_14_method_26_code, prog_14_method_27_code, prog_14_method_28_code, prog_14_method_29_code, prog_14_method_30_code, prog_14_method_31_code, prog_14_method_32_code, prog_14_method_33_code, prog_14_method_34_code, prog_14_method_35_code, prog_14_method_36_code, prog_14_method_37_code, prog_14_method_38_code, prog_14_method_39_code, prog_14_method_40_code, prog_14_method_41_code, prog_14_method_42_code, prog_14_method_43_code, prog_14_method_44_code, prog_14_method_45_code, prog_14_method_46_code, prog_14_method_47_code, prog_14_method_48_code, prog_14_method_49_code, prog_14_method_50_code, prog_14_method_51_code, prog_14_method_52_code, prog_14_method_53_code, prog_14_method_54_code, prog_14_method_55_code, prog_14_method_56_code, prog_14_method_57_code, prog_14_method_58_code, prog_14_method_59_code, prog_14_method_60_code, prog_14_method_61_code, prog_14_method_62_code, prog_14_method_63_code, prog_14_method_64_code, prog_14_method_65_code, prog_14_method_66_code, prog_14_method_67_code, prog_14_method_68_code, prog_14_method_69_code, prog_14_method_70_code, prog_14_method_71_code, prog_14_method_72_code, prog_14_method_73_code, prog_14_method_74_code, prog_14_method_75_code, prog_14_method_76_code, prog_14_method_77_code, prog_14_method_78_code, prog_14_method_79_code, prog_14_method_80_code, prog_14_method_81_code, prog_14_method_82_code, prog_14_method_83_code, prog_14_method_84_code, prog_14_method_85_code, prog_14_method_86_code, prog_14_method_87_code, prog_14_method_88_code, prog_14_method_89_code, prog_15_method_65_code, prog_15_method_52_code, prog_15_method_66_code]
def q_cc (y : Nat) : ByteArray := (q_ccL[y]?).getD ⟨#[]⟩
def q_mxL : List Nat := [1, 5, 1, 2, 2, 3, 2, 2, 3, 2, 3, 2, 2, 2, 3, 2, 2, 4, 4, 2, 2, 3, 4, 3, 4, 4, 4, 3, 2, 3, 2, 2, 3, 3, 4, 2, 3, 3, 13, 14, 4, 5, 4, 6, 5, 4, 3, 2, 1, 4, 2, 3, 4, 3, 2, 2, 1, 1, 5, 4, 2, 4, 1, 2, 6, 3, 3, 3, 4, 3, 4, 1, 3, 4, 4, 8, 9, 6, 8, 7, 3, 6, 5, 4, 4, 3, 2, 1, 1, 2, 2, 3, 4, 5, 3, 5, 8, 4, 2, 3, 1, 1, 1, 2, 1, 2, 1, 2, 3, 1, 4, 3, 4, 5, 8, 5, 8, 7, 3, 3, 3, 2, 2, 1, 2, 3, 4, 3, 4, 2, 21, 3, 4, 6, 1, 4, 1, 2, 3, 4, 3, 1, 1, 4, 6, 6, 1, 1, 3, 3, 3, 4, 6, 4, 1, 3, 3, 5, 3, 5, 4, 7, 11, 8, 8, 4, 7, 5, 1, 3, 5, 5, 3, 5, 7, 5, 6, 8, 10, 4, 4, 4, 3, 2, 2, 2, 1, 1, 2, 4, 2, 2, 3, 2, 5, 5, 3, 4, 2, 4, 3, 3, 3, 2, 3, 1, 3, 2, 2, 6, 4]
def q_mx (y : Nat) : Nat := (q_mxL[y]?).getD 0
def q_rtL : List (Option FieldType) := [(none : Option Jvm.ClassFile.FieldType), (none : Option Jvm.ClassFile.FieldType), (none : Option Jvm.ClassFile.FieldType), (some .int), (some .int), (some .int), (some .int), (some .int), (none : Option Jvm.ClassFile.FieldType), (none : Option Jvm.ClassFile.FieldType), (some .int), (some .int), (some .int), (some .int), (some .int), (some .int), (none : Option Jvm.ClassFile.FieldType), (some .int), (none : Option Jvm.ClassFile.FieldType), (some .boolean), (some .boolean), (some .boolean), (some .int), (some .int), (none : Option Jvm.ClassFile.FieldType), (some .int), (some .int), (some .int), (some .int), (some .int), (some .int), (some .int), (some .int), (some .boolean), (some .int), (none : Option Jvm.ClassFile.FieldType), (none : Option Jvm.ClassFile.FieldType), (some .int), (some .int), (none : Option Jvm.ClassFile.FieldType), (some .int), (some .int), (some .int), (some .int), (some .boolean), (some .int), (some .int), (some .int), (some .boolean), (none : Option Jvm.ClassFile.FieldType), (some .boolean), (some .boolean), (none : Option Jvm.ClassFile.FieldType), (some .int), (some .int), (some .int), (some .int), (some .boolean), (some .int), (some .int), (some .int), (some .int), (some .int), (some .int), (some .int), (some .int), (some .int), (some .int), (some .int), (some .int), (some .int), (some .int), (some .int), (some .int), (some .int), (some .int), (some .int), (some .int), (some .int), (some .int), (some .int), (some .int), (some .int), (some .int), (some .int), (some .int), (some .int), (some .int), (some .int), (some .int), (some .int), (some .int), (some .int), (some .int), (some .long), (some .int), (some .int), (some .int), (some .int), (some .int), (some .int), (some .int), (some .int), (some .int), (some .boolean), (some .boolean), (some .boolean), (some .boolean), (some .boolean), (some .boolean), (some .boolean), (some .int), (some .int), (some .int), (some .int), (some .boolean), (some .int), (some .int), (some .int), (some .int), (some .boolean), (some .boolean), (some .boolean), (some .boolean), (some .boolean), (some .int), (none : Option Jvm.ClassFile.FieldType), (some .int), (some .int), (some .int), (some .int), (some .int), (some .int), (some .int), (none : Option Jvm.ClassFile.FieldType), (some .int), (some .int), (some .int), (some .int), (none : Option Jvm.ClassFile.FieldType), (some .boolean), (some .int), (some .int), (some .int), (none : Option Jvm.ClassFile.FieldType), (some .int), (some .int), (some .int), (some .int), (some .int), (some .int), (some .int), (some .int), (some .int), (some .int), (some .boolean), (some .int), (some .int), (some .boolean), (some .int), (some .int), (some .int), (some .int), (some .int), (some .int), (none : Option Jvm.ClassFile.FieldType), (some .int), (some .int), (some .boolean), (some .long), (some .int), (some .int), (some .long), (some .int), (some .int), (some .boolean), (some .int), (some .int), (some .int), (some .int), (some .int), (some .int), (some .int), (some .int), (some .int), (some .int), (some .int), (some .int), (some .int), (some .boolean), (some .boolean), (some .int), (some .int), (none : Option Jvm.ClassFile.FieldType), (some .int), (some .int), (some .int), (some .int), (some .int), (some .int), (some .int), (none : Option Jvm.ClassFile.FieldType), (none : Option Jvm.ClassFile.FieldType), (some .int), (some .int), (some .int), (some .int), (some .int), (some .int), (some .long), (some .long)]
def q_rt (y : Nat) : Option FieldType := (q_rtL[y]?).getD none
def q_eL : List q_E := [e_0, e_1, e_2, e_3, e_4, e_5, e_6, e_7, e_8, e_9, e_10, e_11, e_12, e_13, e_14, e_15, e_16, e_17, e_18, e_19, e_20, e_21, e_22, e_23, e_24, e_25, e_26, e_27, e_28, e_29, e_30, e_31, e_32, e_33, e_34, e_35, e_36, e_37, e_38, e_39, e_40, e_41, e_42, e_43, e_44, e_45, e_46, e_47, e_48, e_49, e_50, e_51, e_52, e_53, e_54, e_55, e_56, e_57, e_58, e_59, e_60, e_61, e_62, e_63, e_64, e_65, e_66, e_67, e_68, e_69, e_70, e_71, e_72, e_73, e_74, e_75, e_76, e_77, e_78, e_79, e_80, e_81, e_82, e_83, e_84, e_85, e_86, e_87, e_88, e_89, e_90, e_91, e_92, e_93, e_94, e_95, e_96, e_97, e_98, e_99, e_100, e_101, e_102, e_103, e_104, e_105, e_106, e_107, e_108, e_109, e_110, e_111, e_112, e_113, e_114, e_115, e_116, e_117, e_118, e_119, e_120, e_121, e_122, e_123, e_124, e_125, e_126, e_127, e_128, e_129, e_130, e_131, e_132, e_133, e_134, e_135, e_136, e_137, e_138, e_139, e_140, e_141, e_142, e_143, e_144, e_145, e_146, e_147, e_148, e_149, e_150, e_151, e_152, e_153, e_154, e_155, e_156, e_157, e_158, e_159, e_160, e_161, e_162, e_163, e_164, e_165, e_166, e_167, e_168, e_169, e_170, e_171, e_172, e_173, e_174, e_175, e_176, e_177, e_178, e_179, e_180, e_181, e_182, e_183, e_184, e_185, e_186, e_187, e_188, e_189, e_190, e_191, e_192, e_193, e_194, e_195, e_196, e_197, e_198, e_199, e_200, e_201, e_202, e_203, e_204, e_205, e_206, e_207, e_208, e_209, e_210]
def q_en (y : Nat) : q_E := (q_eL[y]?).getD ([], 0, 0, [])
def q_frL : List Nat := [0, 2, 1, 1, 1, 1, 6, 2, 0, 0, 0, 1, 3, 5, 0, 2, 1, 0, 0, 0, 0, 1, 2, 0, 0, 0, 0, 1, 2, 3, 2, 2, 3, 4, 0, 1, 4, 2, 1, 0, 0, 1, 1, 3, 3, 3, 0, 4, 0, 0, 0, 0, 0, 1, 4, 0, 0, 0, 1, 2, 1, 1, 1, 1, 3, 4, 5, 5, 5, 5, 5, 5, 6, 5, 5, 5, 7, 5, 7, 6, 6, 7, 5, 1, 6, 4, 0, 2, 2, 1, 0, 6, 1, 1, 1, 5, 1, 7, 0, 1, 2, 5, 2, 2, 0, 0, 0, 1, 2, 0, 0, 1, 5, 6, 5, 5, 6, 6, 5, 4, 0, 1, 1, 1, 2, 0, 1, 0, 0, 0, 1, 2, 0, 3, 0, 1, 1, 1, 0, 0, 2, 0, 0, 3, 0, 4, 1, 1, 3, 3, 3, 3, 3, 3, 2, 2, 4, 3, 3, 3, 4, 4, 4, 4, 4, 0, 4, 4, 1, 0, 2, 2, 2, 4, 2, 4, 6, 5, 5, 4, 1, 4, 5, 0, 1, 0, 0, 0, 1, 2, 3, 5, 6, 0, 1, 2, 3, 4, 0, 2, 0, 1, 2, 3, 2, 3, 0, 1, 0, 0, 0]
def q_fr (y : Nat) : Nat := (q_frL[y]?).getD 0
def q_loL : List Nat := [0, 46, 26, 23, 23, 22, 126, 42, 0, 0, 0, 21, 63, 105, 0, 42, 26, 0, 0, 0, 0, 21, 43, 0, 0, 0, 0, 23, 44, 65, 45, 45, 66, 87, 0, 26, 88, 65, 33, 0, 0, 25, 23, 87, 87, 87, 0, 84, 0, 0, 0, 0, 0, 22, 84, 0, 0, 0, 20, 41, 20, 23, 20, 20, 70, 88, 110, 110, 110, 110, 110, 110, 135, 110, 110, 112, 159, 110, 159, 135, 135, 162, 111, 23, 135, 95, 0, 44, 44, 21, 0, 139, 23, 23, 21, 112, 26, 147, 0, 23, 47, 109, 47, 42, 0, 0, 0, 20, 41, 0, 0, 20, 112, 135, 110, 111, 135, 135, 117, 95, 0, 22, 22, 22, 42, 0, 22, 0, 0, 0, 23, 63, 0, 85, 0, 22, 20, 20, 0, 0, 43, 0, 0, 65, 0, 88, 23, 23, 65, 85, 85, 85, 85, 85, 45, 43, 110, 63, 63, 85, 109, 110, 110, 109, 110, 0, 110, 110, 22, 0, 42, 42, 42, 110, 42, 110, 163, 134, 134, 110, 22, 110, 113, 0, 22, 0, 0, 0, 22, 43, 66, 113, 134, 0, 21, 45, 69, 91, 0, 43, 0, 22, 44, 66, 45, 66, 0, 22, 0, 0, 0]
def q_lo (y : Nat) : Nat := (q_loL[y]?).getD 0
def q_wy (y : Nat) : List Cond := .code (q_yn y) (q_cc y) (q_mx y) (q_rt y) :: q_TW
def q_rm (y : Nat) : Room := { frames := q_fr y, cells := 0, slots := 0, locals := q_lo y }
/-- what is so of every method -/
def q_okY (y : Nat) : Prop := plainFor (q_yn y) = true ∧ Cond.code (q_yn y) (q_cc y) (q_mx y) (q_rt y) ∈ q_TW ∧ Cond.initialized (q_yn y).cls ∈ q_TW ∧ ((q_yn y).cls ≠ "java/lang/invoke/MethodHandle" ∧ (q_yn y).cls ≠ "java/lang/invoke/VarHandle")
theorem q_TW_good {w : Cond} (h : w ∈ q_TW) : (w.onTables && w.keeps) = true ∨ ∃ ty, w = .arrayClass ty := good_of_word (List.mem_filter.mp h).2
theorem q_wy_good {y : Nat} (h : q_okY y) : GoodIn q_TW (q_wy y) := by
  intro w hw
  rcases List.mem_cons.mp hw with e | e
  · rw [e]
    exact ⟨h.2.1, q_TW_good h.2.1⟩
  · exact ⟨e, q_TW_good e⟩
def q_Pre (D : va_G) (cA : Nat → ClassId) (ad : Nat → Nat) (h : q_S) (sz : Nat) : State → Prop := fun U => U.heap.size = sz ∧ va_P D q_cn (q_w ad cA h) U.heap ∧ va_D (fun _ => True) (q_w ad cA h) ∧ q_Wd D cA ad (va_A (q_w ad cA h) sz) U
def q_Qc (D : va_G) (cA : Nat → ClassId) (ad : Nat → Nat) (h : q_S) (sz : Nat) (r : q_S × Option Value) : Array Value → State → Outcome → State → Prop := fun _ st oc t => oc = .returned (r.2.map (q_cv ad)) ∧ va_P D q_cn (q_w ad cA r.1) t.heap ∧ va_F (va_A (q_w ad cA h) sz) st t
/-- method y, begun with as in h, gives r -/
def q_Met (l : Launch) (D : va_G) (cA : Nat → ClassId) (ad : Nat → Nat) (y : Nat) (h : q_S) (as : List Value) (r : q_S × Option Value) : Prop := ∀ sz : Nat, Met l (q_yn y) (q_wy y) (q_rm y) (va_Pc (as.map (q_cv ad)) (q_Pre D cA ad h sz)) (q_Qc D cA ad h sz r) 0 0 (va_A (q_w ad cA h) sz)
theorem q_Wd_moved {D : va_G} {cA : Nat → ClassId} {ad : Nat → Nat} {A B : Nat → Prop} {u U : State} {H : Heap} (h : q_Wd D cA ad A u) (hW : u.WarmedH U.vm) (hH : U.heap = H) (hk : ∀ a, a < u.heap.size → ¬ A a → H[a]? = u.heap[a]?) (hB : ∀ q, B q → A q) : q_Wd D cA ad B U := by
  obtain ⟨h1, h2, h3, h4, h5, h6⟩ := h
  subst hH
  exact ⟨va_K.moved hW.alike h1, ((h2.moved hW.alike).kept hk).narrow hB, ((h3.moved hW.alike).kept hk).narrow hB, ((h4.moved hW.alike).kept hk).narrow hB, fun a n f hf => (((h5 a n f hf).moved hW.alike).kept hk).narrow hB, va_Nw.warmM hW h6⟩
theorem q_blind {D : va_G} {cA : Nat → ClassId} {ad : Nat → Nat} {h : q_S} {sz : Nat} {as : List Value} : FrameBlind (va_Pc as (q_Pre D cA ad h sz)) := by
  intro a U g mk q
  obtain ⟨q0, q1, q2, q3, qK, q4, q5, q6, q7, q8⟩ := q
  exact ⟨q0, q1, q2, q3, va_K.moved (u := U) (U := U.calling g mk a) (Vm.Alike.refl U.vm) qK, q4.moved (u := U) (U := U.calling g mk a) (Vm.Alike.refl U.vm), q5.moved (u := U) (U := U.calling g mk a) (Vm.Alike.refl U.vm), q6.moved (u := U) (U := U.calling g mk a) (Vm.Alike.refl U.vm), fun a' n f hf => (q7 a' n f hf).moved (u := U) (U := U.calling g mk a) (Vm.Alike.refl U.vm), va_Nw.same (u := U) (U := U.calling g mk a) rfl rfl q8⟩
section QC
variable {p : Program} {l : Launch} {e : Env} {R : Room} {s : State} {m : MethodId} {args : Array Value} {below : List Frame} {meth : Method} {c : Code} {cells slots : Nat} {Q : State → Prop} {D : va_G} {cA : Nat → ClassId} {ad : Nat → Nat} {A : Nat → Prop} {X : q_X} {cc : ByteArray} {own : String} {nL : Nat}
variable {E : q_E} {O : q_O} {k : q_K} {pc : Nat} {L : q_L} {st : List Value} {h : q_S} {r : q_S × Option Value} {au : List Nat} {sw : List (Int32 × Nat)}
theorem q_free {H : Heap} {locs : List Loc} (hC : q_Cx p l R s m args c D cA ad A X cc own nL) (hS : va_S A s.heap H locs) : ∀ q, va_A (q_w ad cA h) H.size q → A q := by
  intro q hq
  rcases hq with ⟨i, e1, he⟩ | hq
  · exact (hC.2.2.2.2.2.1 h).2 i _ he
  · exact hC.2.2.2.2.2.2.1 q (Nat.le_trans hS.1 hq)
theorem q_pre {H : Heap} {locs : List Loc} {U : State} {as : List Value} (hC : q_Cx p l R s m args c D cA ad A X cc own nL) (hP : va_P D q_cn (q_w ad cA h) H) (hS : va_S A s.heap H locs) (hU : U.heap = H) (hW : s.WarmedH U.vm) : va_Pc as (q_Pre D cA ad h H.size) as.toArray U :=
  ⟨rfl, by rw [hU], by rw [hU]; exact hP, (hC.2.2.2.2.2.1 h).weaken (fun _ _ _ _ => trivial), q_Wd_moved hC.2.2.2.2.2.2.2.1 hW hU hS.2.1 (q_free hC hS)⟩
theorem q_callx {y : Nat} {r' : q_S × Option Value} {H : Heap} {locs : List Loc} {ls : Array Slot} {rest : List Value} {st0 : List Value} {a : Array Value} (hC : q_Cx p l R s m args c D cA ad A X cc own nL) (hr : va_Run p l e R s m args below meth c H locs cells slots 0 0 (F0 m pc ls st0) rest (q_Qc D cA ad h H.size r' a) (va_A (q_w ad cA h) H.size)) (hS : va_S A s.heap H locs)
    (kk : ∀ (H1 : Heap) (locs1 : List Loc), va_P D q_cn (q_w ad cA r'.1) H1 → va_S A s.heap H1 locs1 → W p l e R s m args below meth c H1 locs1 cells slots Q (F0 m (pc + 3) ls ((r'.2.map (q_cv ad)).toList ++ rest))) : W p l e R s m args below meth c H locs cells slots Q (F0 m pc ls st0) := by
  intro T hT X
  obtain ⟨v, st₀, t, T', L, h0, X', hL, e1, e2, ⟨hv, hp, hz, hk⟩, st⟩ := hr T hT X
  have hv : v = r'.2.map (q_cv ad) := by injection hv
  subst hv
  rw [h0] at hz hk
  have hf := q_free (h := h) hC hS
  obtain ⟨t2, a1, b1⟩ := kk T'.heap (locs ++ L) (by rw [e1]; exact hp)
    ⟨Nat.le_trans hS.1 (by rw [e1]; exact hz), fun q h1 h2 => by rw [e1, hk q (Nat.lt_of_lt_of_le h1 hS.1) (fun z => h2 (hf q z))]; exact hS.2.1 q h1 h2, fun q hq => by
      rcases List.mem_append.mp hq with h | h
      · exact hS.2.2 q h
      · exact hf _ (hL q h)⟩ T' rfl X'
  exact ⟨t2, st t2 a1, b1⟩
/-- the words of a call of a static method -/
def q_okS (own : String) (i y n : Nat) : Prop := (Cond.methodLink own i (q_yn y) ∈ q_TW ∨ (own = "WhirlShafts$Line" ∧ i = 58 ∧ q_yn y = q_inR)) ∧ Cond.static (q_yn y) ∈ q_TW ∧ (parseMethodDescriptor (q_yn y).desc).map (fun d => d.parameters.length) = some n
def q_okR (R : Room) (y : Nat) : Prop := q_fr y + 1 ≤ R.frames ∧ 8 + (q_mx y + 11) + q_lo y ≤ R.locals
theorem qs_callS {y i n : Nat} {as : List Value} {r' : q_S × Option Value} (hC : q_Cx p l R s m args c D cA ad A X cc own nL) (hd : decode cc pc = .ok (.invokestatic i, 3)) (hY : q_okY y) (hw : q_okS own i y n) (hR : q_okR R y) (hM : q_Met l D cA ad y h as r') (hn : as.length = n) (hst : q_ca st ≤ 8) (hcs : cells ≤ R.cells ∧ slots ≤ R.slots)
    (k : q_Psi p l e R s m args below meth c cells slots Q D cA ad A nL (pc + 3) L (r'.2.toList ++ st) r'.1) : q_Psi p l e R s m args below meth c cells slots Q D cA ad A nL pc L (as.reverse ++ st) h := by
  intro H locs ls hP hS hl
  have hts := hC.2.2.2.2.1
  have hstack : (F0 m pc ls ((as.reverse ++ st).map (q_cv ad))).stack = (as.map (q_cv ad)).reverse ++ st.map (q_cv ad) := by simp
  have hfin : ∀ (H1 : Heap) (locs1 : List Loc), va_P D q_cn (q_w ad cA r'.1) H1 → va_S A s.heap H1 locs1 → W p l e R s m args below meth c H1 locs1 cells slots Q (F0 m (pc + 3) ls ((r'.2.map (q_cv ad)).toList ++ st.map (q_cv ad))) := by
    intro H1 locs1 hP1 hS1
    have := k H1 locs1 ls hP1 hS1 hl
    have e : (r'.2.toList ++ st).map (q_cv ad) = (r'.2.map (q_cv ad)).toList ++ st.map (q_cv ad) := by cases r'.2 <;> simp
    rw [e] at this
    exact this
  rcases hw.1 with hl1 | ⟨e1, e2, e3⟩
  · exact q_callx (y := y) hC (va_runS (As := as.map (q_cv ad)) (rest := st.map (q_cv ad)) ⟨hC.1, hC.2.1, hC.2.2.1, hC.2.2.2.1, hts⟩ (hM H.size) ⟨callB_of n hts (q_wy_good hY) rfl rfl rfl (hts _ hY.2.2.1) (hts _ hl1) ⟨hY.2.2.2.1, hY.2.2.2.2, hw.2.2⟩ hR, hts _ hw.2.1⟩ ⟨q_blind, fun U hU hW => q_pre hC hP hS hU hW⟩ rfl (by simpa using hn) hl.1 hstack (lv_room (by rw [q_ca_sum]; exact hst)) hd hcs) hS hfin
  · subst e1 e2
    have hN := hC.2.2.2.2.2.2.2.1.2.2.2.2.2
    rw [← e3] at hN
    exact q_callx (y := y) hC (va_runSN (As := as.map (q_cv ad)) (rest := st.map (q_cv ad)) (host := "WhirlShafts") ⟨hC.1, hC.2.1, hC.2.2.1, hC.2.2.2.1, hts⟩ (hM H.size) ⟨va_cnB n hts (q_wy_good hY) rfl rfl rfl hN (hts _ hY.2.2.1) ⟨hY.2.2.2.1, hY.2.2.2.2, hw.2.2⟩ hR, hts _ hw.2.1, trivial⟩ ⟨q_blind, fun U hU hW => q_pre hC hP hS hU hW⟩ rfl (by simpa using hn) hl.1 hstack (lv_room (by rw [q_ca_sum]; exact hst)) hd hcs) hS hfin
/-- the words of a call on an object of class C: its own method; one that it inherits; one that overrides -/
def q_okV (own : String) (i : Nat) (C : String) (y n : Nat) : Prop :=
  ((q_yn y).cls = C ∧ Cond.methodLink own i (q_yn y) ∈ q_TW ∧ Cond.instanceMethod (q_yn y) ∈ q_TW ∧ Cond.selects C (q_yn y) (q_yn y) ∈ q_TW ∧ (parseMethodDescriptor (q_yn y).desc).map (fun d => d.parameters.length) = some n) ∨
  (∃ x : MethodName, Cond.methodLink own i x ∈ q_TW ∧ Cond.sameMethod x.cls (q_yn y).cls x.name x.desc ∈ q_TW ∧ Cond.selects C x (q_yn y) ∈ q_TW ∧ Cond.instanceMethod (q_yn y) ∈ q_TW ∧ q_yn y = ⟨(q_yn y).cls, x.name, x.desc⟩ ∧ (parseMethodDescriptor x.desc).map (fun d => d.parameters.length) = some n) ∨
  (∃ (x : MethodName) (owner : String) (b0 : ByteArray) (m0 : Nat) (r0 : Option FieldType), Cond.methodLink own i x ∈ q_TW ∧ Cond.sameMethod x.cls owner x.name x.desc ∈ q_TW ∧ Cond.instanceMethod ⟨owner, x.name, x.desc⟩ ∈ q_TW ∧ Cond.selects C x (q_yn y) ∈ q_TW ∧ Cond.instanceMethod (q_yn y) ∈ q_TW ∧ Cond.code ⟨owner, x.name, x.desc⟩ b0 m0 r0 ∈ q_TW ∧ (owner ≠ "java/lang/invoke/MethodHandle" ∧ owner ≠ "java/lang/invoke/VarHandle") ∧ (parseMethodDescriptor x.desc).map (fun d => d.parameters.length) = some n)
theorem q_good_app {ws1 ws2 : List Cond} (h1 : ∀ w ∈ ws1, w ∈ q_TW) (h2 : GoodIn q_TW ws2) : GoodIn q_TW (ws1 ++ ws2) := by
  intro w hw
  rcases List.mem_append.mp hw with q | q
  · exact ⟨h1 w q, q_TW_good (h1 w q)⟩
  · exact h2 w q
theorem qs_callV {y i n b : Nat} {C : String} {as : List Value} {r' : q_S × Option Value} {T : u_T} {N : Nat} (hC : q_Cx p l R s m args c D cA ad A X cc own nL) (hd : decode cc pc = .ok (.invokevirtual i, 3)) (hY : q_okY y) (hb : q_ty b = 3) (hcn : q_cn[q_cls b]? = some (C, T, N)) (hCi : Cond.initialized C ∈ q_TW) (hw : q_okV own i C y n) (hR : q_okR R y) (hM : q_Met l D cA ad y h (.ref b :: as) r') (hn : as.length = n) (hst : q_ca st ≤ 8) (hcs : cells ≤ R.cells ∧ slots ≤ R.slots)
    (k : q_Psi p l e R s m args below meth c cells slots Q D cA ad A nL (pc + 3) L (r'.2.toList ++ st) r'.1) : q_Psi p l e R s m args below meth c cells slots Q D cA ad A nL pc L (as.reverse ++ .ref b :: st) h := by
  intro H locs ls hP hS hl
  have hts := hC.2.2.2.2.1
  have hstack : (F0 m pc ls ((as.reverse ++ .ref b :: st).map (q_cv ad))).stack = (as.map (q_cv ad)).reverse ++ .ref (ad b) :: st.map (q_cv ad) := by simp [q_cv]
  have hfin : ∀ (H1 : Heap) (locs1 : List Loc), va_P D q_cn (q_w ad cA r'.1) H1 → va_S A s.heap H1 locs1 → W p l e R s m args below meth c H1 locs1 cells slots Q (F0 m (pc + 3) ls ((r'.2.map (q_cv ad)).toList ++ st.map (q_cv ad))) := by
    intro H1 locs1 hP1 hS1
    have := k H1 locs1 ls hP1 hS1 hl
    have e : (r'.2.toList ++ st).map (q_cv ad) = (r'.2.map (q_cv ad)).toList ++ st.map (q_cv ad) := by cases r'.2 <;> simp
    rw [e] at this
    exact this
  have he := q_w_at (ad := ad) (cA := cA) (h := h) (q_ty_lt hb (by decide) (by decide))
  rw [q_cell_obj hb] at he
  have hpre : PreV s H C (ad b) (va_Pc ((Value.ref b :: as).map (q_cv ad)) (q_Pre D cA ad h H.size)) (as.map (q_cv ad)) := ⟨q_blind, va_recv hC.2.2.2.2.2.2.2.1.1 hP hcn he, fun U hU hW => q_pre hC hP hS hU hW⟩
  rcases hw with ⟨e1, w1, w2, w3, w4⟩ | ⟨x, w1, w2, w3, w4, w5, w6⟩ | ⟨x, owner, b0, m0, r0, w1, w2, w3, w4, w5, w6, w7, w8⟩
  · exact q_callx (y := y) hC (va_runV (As := as.map (q_cv ad)) (rest := st.map (q_cv ad)) ⟨hC.1, hC.2.1, hC.2.2.1, hC.2.2.2.1, hts⟩ (hM H.size) (cwV n hts (q_good_app (by intro w hw; simp only [List.mem_cons, List.not_mem_nil, or_false] at hw; rcases hw with rfl | rfl | rfl | rfl <;> assumption) (q_wy_good hY)) rfl rfl rfl ⟨e1, hY.2.2.2.1, hY.2.2.2.2, w4⟩ hR) hpre rfl (by simpa using hn) hl.1 hstack (lv_room (by rw [q_ca_sum]; exact hst)) hd hcs) hS hfin
  · exact q_callx (y := y) hC (va_runU (As := as.map (q_cv ad)) (rest := st.map (q_cv ad)) ⟨hC.1, hC.2.1, hC.2.2.1, hC.2.2.2.1, hts⟩ (hM H.size) (va_cwU (x := x) (owner := (q_yn y).cls) n hts (q_good_app (by intro w hw; simp only [List.mem_cons, List.not_mem_nil, or_false] at hw; rcases hw with rfl | rfl | rfl | rfl | rfl <;> first | assumption | exact hY.2.2.1) (q_wy_good hY)) rfl rfl rfl w5 ⟨hY.2.2.2.1, hY.2.2.2.2, w6⟩ hR) hpre rfl (by simpa using hn) hl.1 hstack (lv_room (by rw [q_ca_sum]; exact hst)) hd hcs) hS hfin
  · exact q_callx (y := y) hC (va_runU (As := as.map (q_cv ad)) (rest := st.map (q_cv ad)) ⟨hC.1, hC.2.1, hC.2.2.1, hC.2.2.2.1, hts⟩ (hM H.size) (va_cwO (x := x) (owner := owner) n hts (q_good_app (by intro w hw; simp only [List.mem_cons, List.not_mem_nil, or_false] at hw; rcases hw with rfl | rfl | rfl | rfl | rfl | rfl <;> first | assumption | exact hY.2.2.1) (q_wy_good hY)) rfl rfl rfl w6 ⟨w7.1, w7.2, w8⟩ hR) hpre rfl (by simpa using hn) hl.1 hstack (lv_room (by rw [q_ca_sum]; exact hst)) hd hcs) hS hfin
/-- the words of super.y(..), y perhaps the method of the class above the superclass -/
def q_okP (own : String) (i y n : Nat) : Prop := ∃ x : MethodName, Cond.methodLink own i x ∈ q_TW ∧ Cond.sameMethod x.cls (q_yn y).cls x.name x.desc ∈ q_TW ∧ Cond.superclass own x.cls ∈ q_TW ∧ ((q_yn y).cls = x.cls ∨ Cond.superclass x.cls (q_yn y).cls ∈ q_TW) ∧ Cond.instanceMethod (q_yn y) ∈ q_TW ∧ q_yn y = ⟨(q_yn y).cls, x.name, x.desc⟩ ∧ (parseMethodDescriptor (q_yn y).desc).map (fun d => d.parameters.length) = some n ∧ x.name ≠ "<init>"
theorem q_runP {y : MethodName} {bytes : ByteArray} {maxL mc ms n index : Nat} {ret : Option FieldType} {ws : List Cond} {rm : Room} {Pc : Array Value → State → Prop} {Qc : Array Value → State → Outcome → State → Prop} {free : Addr → Prop} {C : String} {cC : ClassId} {b : Addr} {As rest : List Value} {g : JFrame} {x : MethodName} {H : Heap} {locs : List Loc}
    (hat : ClassAt s C cC) (S : CallFix p m c cc nL s args q_TW own) (hM : Met l y ws rm Pc Qc mc ms free) (hback : rm.cells = mc ∧ rm.slots = ms ∧ rm.frames + 1 ≤ R.frames ∧ 8 + (maxL + 11) + rm.locals ≤ R.locals ∧ (∀ w ∈ ws, ∀ (a' : Array Value) (U : State), s.WarmedH U.vm → w.before a' U = true) ∧ Cond.code y bytes maxL ret ∈ ws)
    (hl1 : (Cond.methodLink own index x).before args s = true) (hl2 : (Cond.sameMethod x.cls y.cls x.name x.desc).before args s = true) (hl3 : (Cond.superclass own x.cls).before args s = true) (hl5 : y.cls = x.cls ∨ (Cond.superclass x.cls y.cls).before args s = true) (hl4 : (Cond.instanceMethod y).before args s = true) (hyx : y = ⟨y.cls, x.name, x.desc⟩) (hini : (Cond.initialized y.cls).before args s = true) (hcode : (Cond.code y bytes maxL ret).before args s = true) (hno : x.name ≠ "<init>") (hlen : ∀ sig, parseMethodDescriptor y.desc = some sig → n = sig.parameters.length)
    (hp : PreV s H C b Pc As) (hg : g.method = m) (hn : As.length = n) (hsize : g.locals.size = nL) (hstack : g.stack = As.reverse ++ .ref b :: rest) (hW : 2 * g.monitorRoom + (rest.map fun v => v.category).sum ≤ 8) (hdg : decode cc g.pc = .ok (.invokespecial index, 3)) (hf : cells + mc ≤ R.cells ∧ slots + ms ≤ R.slots) :
    va_Run p l e R s m args below meth c H locs cells slots mc ms g rest (Qc (Value.ref b :: As).toArray) (free) := by
  obtain ⟨hrc, hrs, hfr, hlo, hws, hcw⟩ := hback
  have hK : Back l R p e below s args y 3 8 (PreOf R mc ms Pc) (PostOf Qc mc ms free) := back_of (bytes := bytes) (maxL := maxL) (ret := ret) hM hp.1 hrc hrs hfr hlo hws hcw (fun a' U hW => word_at hW (Or.inl (by first | rfl | simp [Cond.onTables, Cond.keeps, Cond.steady])) hini)
  obtain ⟨hx, hb, hml, ho, -⟩ := S
  obtain ⟨-, ⟨cellB, hcB, hoB, hclB⟩, hPc⟩ := hp
  obtain ⟨hfc, kB, hkB, -⟩ := hat
  cases hfc.symm.trans hclB
  intro T hT X
  obtain ⟨mk, methM, hnamed, hmethM, hstM, habM⟩ := Cond.instanceMethod_spec hl4
  obtain ⟨methM', cM, hmethM', -, -, -, -, -, -, hsigM⟩ := Cond.code_spec hnamed hcode
  cases hmethM.symm.trans hmethM'
  obtain ⟨ps, dk, kp, hps, hdk, hkp, hsuper, -, -, hnid⟩ := Cond.superclass_spec ho hl3
  have hcy := findClass_of_methodNamed hnamed
  have hsub : s.vm.isSubclass ps mk.cls = true := by
    rcases hl5 with e1 | e1
    · rw [e1] at hcy
      have : ps = mk.cls := Option.some.inj (hps.symm.trans hcy)
      rw [this]
      simp [Vm.isSubclass, Vm.isSubclassAux]
    · obtain ⟨pt, dk2, kp2, hps2, hdk2, hkp2, hsuper2, -, -, -⟩ := Cond.superclass_spec hps e1
      have e2 : pt = mk.cls := Option.some.inj (hps2.symm.trans hcy)
      have hsz : ∃ n, s.vm.classes.size = n + 1 := ⟨s.vm.classes.size - 1, by have := (Array.getElem?_eq_some_iff.mp hdk2).1; omega⟩
      obtain ⟨n1, hn1⟩ := hsz
      simp [Vm.isSubclass, hn1, Vm.isSubclassAux, hdk2, hsuper2, e2]
  have hnm : s.methodNamed? ⟨y.cls, x.name, x.desc⟩ = some mk := by rw [← hyx]; exact hnamed
  obtain ⟨vm₁, X₁, hstep₁⟩ := X.invokespecialUp hx ho hl1 hl2 hnm hmethM hstM habM hno hdk hnid hps hsuper hsub (a := b) (cell := cellB) (by rw [hT]; exact hcB)
    (fun z h => by rw [h] at hoB; cases hoB) hkB (g := g) hg (argsL := As) (rest := rest) (hn.trans (hlen _ hsigM)) hstack (by rw [hb]; exact hdg)
  obtain ⟨v, ⟨U', l2, c2, s2⟩, X', ⟨g', mk', t, L, e1, e2, hq, h1, hL, h2, h3⟩, hsteps⟩ := hK m meth c ⟨T.setVm vm₁, locs, cells, slots⟩ { g with stack := rest } (.invokespecial index) mk (Value.ref b :: As).toArray X₁ hg (hsize.trans hml.symm) (by rw [hb]; exact hdg) hW (X₁.named hnamed) ⟨hf.1, hf.2, hPc (T.setVm vm₁) hT X₁.warmed⟩
  dsimp only [Pt.U, Pt.locs, Pt.cells, Pt.slots] at X' e1 e2 h1 h2 h3
  subst h1; subst h2; subst h3
  exact ⟨v, (T.setVm vm₁).calling g' mk' (Value.ref b :: As).toArray, t, U', L, hT, X', hL, e1, e2, hq, fun target h => hstep₁ _ (by rw [doInvoke_state]; exact hsteps.trans h)⟩
theorem qs_callP {y i n b : Nat} {C : String} {as : List Value} {r' : q_S × Option Value} {T : u_T} {N : Nat} (hC : q_Cx p l R s m args c D cA ad A X cc own nL) (hd : decode cc pc = .ok (.invokespecial i, 3)) (hY : q_okY y) (hb : q_ty b = 3) (hcn : q_cn[q_cls b]? = some (C, T, N)) (hw : q_okP own i y n) (hR : q_okR R y) (hM : q_Met l D cA ad y h (.ref b :: as) r') (hn : as.length = n) (hst : q_ca st ≤ 8) (hcs : cells ≤ R.cells ∧ slots ≤ R.slots)
    (k : q_Psi p l e R s m args below meth c cells slots Q D cA ad A nL (pc + 3) L (r'.2.toList ++ st) r'.1) : q_Psi p l e R s m args below meth c cells slots Q D cA ad A nL pc L (as.reverse ++ .ref b :: st) h := by
  intro H locs ls hP hS hl
  have hts := hC.2.2.2.2.1
  have hstack : (F0 m pc ls ((as.reverse ++ .ref b :: st).map (q_cv ad))).stack = (as.map (q_cv ad)).reverse ++ .ref (ad b) :: st.map (q_cv ad) := by simp [q_cv]
  have hfin : ∀ (H1 : Heap) (locs1 : List Loc), va_P D q_cn (q_w ad cA r'.1) H1 → va_S A s.heap H1 locs1 → W p l e R s m args below meth c H1 locs1 cells slots Q (F0 m (pc + 3) ls ((r'.2.map (q_cv ad)).toList ++ st.map (q_cv ad))) := by
    intro H1 locs1 hP1 hS1
    have := k H1 locs1 ls hP1 hS1 hl
    have e : (r'.2.toList ++ st).map (q_cv ad) = (r'.2.map (q_cv ad)).toList ++ st.map (q_cv ad) := by cases r'.2 <;> simp
    rw [e] at this
    exact this
  have he := q_w_at (ad := ad) (cA := cA) (h := h) (q_ty_lt hb (by decide) (by decide))
  rw [q_cell_obj hb] at he
  have hpre : PreV s H C (ad b) (va_Pc ((Value.ref b :: as).map (q_cv ad)) (q_Pre D cA ad h H.size)) (as.map (q_cv ad)) := ⟨q_blind, va_recv hC.2.2.2.2.2.2.2.1.1 hP hcn he, fun U hU hW => q_pre hC hP hS hU hW⟩
  have hat := (hC.2.2.2.2.2.2.2.1.1.1 _ _ hcn).2
  obtain ⟨x, w1, w2, w3, w5, w4, w6, w7, w8⟩ := hw
  exact q_callx (y := y) hC (q_runP (As := as.map (q_cv ad)) (rest := st.map (q_cv ad)) hat ⟨hC.1, hC.2.1, hC.2.2.1, hC.2.2.2.1, hts⟩ (hM H.size) ⟨rfl, rfl, hR.1, hR.2, pay_in hts (q_wy_good hY), List.mem_cons_self⟩ (hts _ w1) (hts _ w2) (hts _ w3) (w5.imp id (hts _)) (hts _ w4) w6 (hts _ hY.2.2.1) (hts _ hY.2.1) w8 (fun sig h => by rw [h] at w7; exact (Option.some.inj w7).symm) hpre rfl (by simpa using hn) hl.1 hstack (lv_room (by rw [q_ca_sum]; exact hst)) hd hcs) hS hfin
end QC
end
section
/-! ===== the links of the pools, each by its word ===== -/
def q_csL : List String := ["WhirlShafts$Changes", "WhirlShafts$Crown", "WhirlShafts$Disc", "WhirlShafts$Hub", "WhirlShafts$Line", "WhirlShafts$Orders", "WhirlShafts$Rates", "WhirlShafts$Rim", "WhirlShafts$Row", "WhirlShafts$Shell", "WhirlShafts$Tape", "WhirlShafts", "WhirlShaftsModel", "java/lang/Math", "WhirlShaftsLaw"]
def q_cs (o : Nat) : String := (q_csL[o]?).getD ""
def q_LF : List (List (Nat × Nat × Nat × Nat)) := [[(9, 0, 0, 1), (15, 0, 1, 1), (18, 0, 2, 1), (21, 0, 3, 1), (24, 0, 4, 0), (28, 0, 5, 0)], [], [(9, 2, 0, 1), (15, 2, 1, 0), (19, 2, 2, 0), (22, 2, 3, 0)], [], [(9, 4, 1, 1), (15, 4, 2, 1), (18, 4, 3, 1), (21, 4, 4, 1), (24, 4, 5, 1), (27, 4, 0, 1), (31, 4, 6, 0), (35, 4, 7, 0), (38, 4, 8, 0)], [(9, 5, 0, 1), (15, 5, 1, 1), (18, 5, 2, 1), (21, 5, 3, 0)], [(11, 6, 1, 1), (15, 6, 2, 1), (18, 6, 3, 1), (23, 6, 4, 1), (26, 4, 6, 0), (32, 6, 0, 0)], [], [(9, 8, 0, 1), (15, 8, 1, 0), (19, 8, 2, 0)], [], [(9, 10, 0, 1), (15, 10, 3, 1), (18, 10, 1, 0), (30, 10, 2, 0)], [(17, 11, 0, 1), (39, 11, 2, 1), (43, 11, 3, 1), (46, 11, 4, 1), (52, 11, 6, 1), (56, 11, 7, 1), (62, 11, 8, 1), (69, 11, 9, 1), (76, 11, 10, 1), (82, 11, 11, 1), (95, 4, 6, 0), (106, 4, 7, 0), (109, 4, 8, 0), (140, 4, 1, 1), (208, 4, 4, 1), (211, 4, 2, 1), (225, 8, 2, 0), (236, 8, 0, 1), (244, 5, 3, 0), (249, 5, 0, 1), (252, 5, 1, 1), (255, 5, 2, 1), (261, 0, 4, 0), (268, 0, 5, 0), (274, 10, 1, 0), (297, 8, 1, 0), (309, 11, 1, 2), (325, 2, 1, 0), (328, 2, 0, 1), (337, 11, 5, 0), (361, 10, 2, 0), (370, 10, 3, 1)], [(9, 12, 3, 1), (15, 12, 4, 1), (18, 12, 5, 1), (21, 12, 6, 1), (24, 12, 7, 1), (27, 12, 8, 1), (30, 12, 9, 1), (33, 12, 10, 1), (36, 12, 11, 1), (39, 12, 12, 1), (42, 12, 13, 1), (46, 12, 14, 1), (49, 12, 15, 1), (52, 12, 16, 1), (55, 12, 17, 1), (58, 12, 18, 1), (61, 12, 19, 1), (64, 12, 22, 1), (67, 12, 23, 1), (70, 12, 24, 1), (73, 12, 25, 1), (76, 12, 27, 1), (79, 12, 28, 1), (82, 12, 29, 1), (85, 12, 30, 1), (88, 12, 31, 1), (91, 12, 32, 1), (94, 12, 33, 1), (97, 12, 34, 1), (100, 12, 38, 1), (103, 12, 40, 1), (106, 12, 41, 1), (109, 12, 42, 1), (112, 12, 43, 1), (115, 12, 45, 0), (119, 12, 0, 0), (130, 12, 1, 0), (137, 12, 2, 0), (166, 12, 20, 0), (169, 12, 21, 0), (247, 12, 26, 0), (257, 12, 35, 0), (260, 12, 36, 0), (269, 12, 37, 0), (291, 12, 39, 0), (306, 12, 46, 0), (310, 12, 44, 0)], [], []]
def q_LP : List (List (Nat × Nat × Nat × Nat)) := [[(24, 0, 4, 0), (28, 0, 5, 0)], [], [(15, 2, 1, 0), (19, 2, 2, 0), (22, 2, 3, 0)], [], [(31, 4, 6, 0), (35, 4, 7, 0), (38, 4, 8, 0)], [(21, 5, 3, 0)], [(32, 6, 0, 0)], [], [(15, 8, 1, 0), (19, 8, 2, 0)], [], [(18, 10, 1, 0), (30, 10, 2, 0)], [(95, 4, 6, 0), (106, 4, 7, 0), (109, 4, 8, 0), (244, 5, 3, 0), (274, 10, 1, 0), (309, 11, 1, 2), (337, 11, 5, 4), (361, 10, 2, 0)], [(115, 12, 45, 0), (119, 12, 0, 0), (130, 12, 1, 0), (137, 12, 2, 0), (166, 12, 20, 0), (169, 12, 21, 0), (247, 12, 26, 0), (257, 12, 35, 0), (260, 12, 36, 0), (269, 12, 37, 0), (291, 12, 39, 0), (306, 12, 46, 4), (310, 12, 44, 0)], [], []]
def q_LS : List (List (Nat × Nat × Nat)) := [[], [], [], [], [(58, 105, 2)], [], [(57, 209, 2), (65, 210, 2)], [], [], [(11, 208, 2)], [(22, 56, 1), (26, 57, 1)], [(87, 104, 1), (91, 105, 2), (158, 107, 2), (182, 106, 1), (189, 108, 3), (218, 109, 1), (331, 110, 2)], [(122, 120, 3), (126, 123, 1), (147, 129, 1), (185, 141, 1), (188, 142, 1), (209, 124, 2), (218, 158, 3), (228, 168, 1), (231, 169, 2), (266, 187, 1)], [], []]
def q_LV : List (List (Nat × Nat × Nat × Nat)) := [[(31, 0, 2, 0), (40, 4, 24, 3)], [(11, 1, 9, 1)], [(25, 1, 9, 1), (25, 2, 9, 1), (25, 3, 9, 1), (25, 7, 9, 1), (25, 9, 9, 1), (29, 1, 7, 1), (29, 2, 11, 1), (29, 3, 15, 1), (29, 7, 11, 1), (29, 9, 15, 1), (33, 1, 47, 1), (33, 2, 12, 1), (33, 3, 12, 1), (33, 7, 47, 1), (33, 9, 54, 1)], [(7, 3, 9, 1), (7, 9, 9, 1)], [(47, 4, 19, 1), (51, 4, 20, 1), (54, 4, 21, 2), (61, 4, 26, 1), (65, 4, 25, 1), (68, 1, 5, 2), (68, 2, 10, 2), (68, 3, 14, 2), (68, 7, 46, 2), (68, 9, 53, 2), (74, 4, 28, 1), (77, 4, 27, 1), (80, 4, 30, 1), (83, 4, 31, 1), (86, 4, 29, 1)], [], [(33, 4, 29, 1), (37, 4, 32, 1), (39, 4, 31, 1), (42, 6, 38, 4), (46, 6, 39, 3), (50, 6, 40, 1), (68, 6, 42, 0), (72, 6, 37, 2)], [(7, 1, 9, 1), (7, 7, 9, 1)], [], [(16, 9, 9, 1), (26, 9, 15, 1)], [(33, 10, 60, 0)], [(99, 0, 0, 0), (102, 4, 17, 3), (112, 4, 22, 3), (115, 4, 23, 2), (119, 4, 24, 3), (123, 0, 1, 4), (127, 4, 21, 2), (130, 4, 20, 1), (133, 4, 31, 1), (137, 4, 19, 1), (143, 4, 28, 1), (146, 4, 29, 1), (149, 4, 30, 1), (152, 4, 27, 1), (155, 4, 32, 1), (161, 6, 36, 1), (165, 6, 37, 2), (168, 6, 40, 1), (171, 6, 38, 4), (175, 6, 41, 1), (178, 6, 42, 0), (185, 11, 112, 3), (193, 6, 45, 3), (196, 6, 43, 2), (199, 4, 16, 1), (202, 11, 114, 4), (205, 11, 113, 4), (214, 4, 18, 1), (221, 8, 48, 0), (228, 11, 117, 4), (232, 11, 116, 5), (240, 6, 44, 3), (247, 5, 34, 3), (258, 11, 64, 3), (264, 0, 3, 1), (271, 0, 4, 1), (277, 10, 55, 1), (279, 10, 58, 0), (282, 11, 118, 0), (285, 8, 49, 2), (289, 8, 50, 1), (291, 8, 52, 2), (300, 8, 51, 2), (313, 1, 8, 2), (313, 2, 8, 2), (313, 3, 8, 2), (313, 7, 8, 2), (313, 9, 8, 2), (316, 1, 7, 1), (316, 2, 11, 1), (316, 3, 15, 1), (316, 7, 11, 1), (316, 9, 15, 1), (319, 1, 47, 1), (319, 2, 12, 1), (319, 3, 12, 1), (319, 7, 47, 1), (319, 9, 54, 1), (322, 1, 6, 1), (322, 2, 13, 1), (322, 3, 13, 1), (322, 7, 13, 1), (322, 9, 13, 1), (334, 5, 35, 1), (341, 4, 33, 1), (345, 4, 25, 1), (348, 11, 111, 0), (357, 11, 115, 3), (364, 10, 59, 0), (367, 11, 119, 1), (373, 11, 61, 3), (376, 11, 62, 0)], [(133, 12, 125, 1), (144, 12, 128, 1), (151, 12, 130, 4), (155, 12, 126, 0), (158, 12, 132, 0), (162, 12, 131, 2), (172, 12, 134, 0), (175, 12, 121, 1), (178, 12, 122, 1), (181, 12, 140, 2), (191, 12, 127, 0), (194, 12, 143, 3), (198, 12, 138, 2), (201, 12, 144, 4), (205, 12, 139, 3), (212, 12, 155, 2), (215, 12, 133, 2), (221, 12, 159, 3), (224, 12, 165, 1), (237, 12, 177, 4), (240, 12, 178, 5), (244, 12, 175, 3), (250, 12, 202, 2), (254, 12, 145, 3), (263, 12, 186, 0), (272, 12, 188, 0), (275, 12, 189, 0), (279, 12, 135, 3), (282, 12, 136, 0), (285, 12, 190, 0), (288, 12, 191, 1), (294, 12, 193, 1), (297, 12, 194, 2), (300, 12, 195, 2), (303, 12, 196, 2), (313, 12, 200, 1), (316, 12, 201, 1), (320, 12, 206, 0)], [], [(13, 11, 61, 3), (17, 12, 135, 3), (18, 11, 62, 0), (22, 12, 136, 0), (23, 11, 63, 0), (26, 12, 137, 0), (27, 11, 64, 3), (30, 12, 145, 3), (31, 11, 65, 2), (35, 12, 148, 2), (36, 11, 66, 2), (39, 12, 149, 2), (40, 11, 67, 2), (43, 12, 150, 2), (44, 11, 68, 3), (47, 12, 151, 3), (48, 11, 69, 2), (51, 12, 152, 2), (52, 11, 70, 3), (55, 12, 153, 3), (56, 11, 71, 0), (59, 12, 154, 0), (60, 11, 72, 2), (63, 12, 156, 2), (64, 11, 73, 3), (67, 12, 157, 3), (68, 11, 74, 3), (71, 12, 160, 3), (72, 11, 75, 2), (75, 12, 161, 2), (76, 11, 76, 5), (80, 12, 162, 5), (81, 11, 77, 4), (85, 12, 163, 4), (86, 11, 78, 3), (89, 12, 164, 3), (90, 11, 79, 2), (93, 12, 166, 2), (94, 11, 80, 1), (98, 12, 167, 1), (99, 11, 81, 5), (102, 12, 176, 5), (103, 11, 82, 2), (106, 12, 179, 2), (107, 11, 83, 3), (110, 12, 180, 3), (111, 11, 84, 2), (114, 12, 181, 2), (115, 11, 85, 0), (118, 12, 182, 0), (119, 11, 86, 0), (122, 12, 183, 0), (123, 11, 87, 0), (126, 12, 146, 0), (127, 11, 88, 0), (130, 12, 147, 0), (131, 11, 89, 1), (134, 12, 184, 1), (135, 11, 90, 0), (138, 12, 185, 0), (139, 11, 91, 0), (142, 12, 192, 0), (143, 11, 92, 3), (146, 12, 170, 3), (149, 11, 93, 3), (153, 12, 171, 3), (154, 11, 94, 2), (158, 12, 172, 2), (159, 11, 95, 3), (162, 12, 173, 3), (163, 11, 96, 5), (166, 12, 174, 5), (167, 11, 97, 3), (170, 12, 197, 3), (171, 11, 98, 1), (174, 12, 198, 1), (175, 11, 99, 2), (178, 12, 199, 2), (179, 11, 100, 0), (182, 12, 203, 0), (183, 11, 101, 0), (186, 12, 204, 0), (187, 11, 102, 0), (190, 12, 205, 0), (191, 11, 103, 1), (194, 12, 207, 1)]]
def q_LI : List (List (Nat × Nat × Nat)) := [[], [(7, 46, 2), (17, 13, 1), (21, 11, 1)], [], [(13, 11, 1)], [], [], [], [(13, 12, 1)], [], [(7, 14, 2), (22, 12, 1)], [], [], [], [], []]
def q_LC : List (List (Nat × Nat)) := [[], [], [], [], [], [], [(53, 1073741823), (55, 10007), (63, 2), (76, 9999)], [], [], [], [], [(295, 9223372036854775808)], [(140, 10007), (142, 268435455), (235, 9223372036854775808)], [], [(147, 4294967295)]]
def q_LG : List (List (Nat × Nat)) := [[], [], [], [], [], [], [], [], [], [], [], [(9, 102), (351, 103), (354, 104)], [], [], []]
def q_LA : List (List (Nat)) := [[34], [], [], [], [41], [25], [], [], [], [], [], [303], [], [], []]
def q_niL : List Nat := [53, 53, 53, 53, 53, 49, 49, 49, 46, 46, 46, 46, 46, 46, 48, 48, 51, 51, 51, 51, 51, 51, 51, 51, 51, 51, 51, 51, 51, 51, 51, 51, 51, 51, 52, 52, 54, 54, 54, 54, 54, 54, 54, 54, 54, 54, 47, 47, 56, 56, 56, 56, 56, 50, 50, 55, 55, 55, 55, 55, 55, 45, 45, 45, 45, 45, 45, 45, 45, 45, 45, 45, 45, 45, 45, 45, 45, 45, 45, 45, 45, 45, 45, 45, 45, 45, 45, 45, 45, 45, 45, 45, 45, 45, 45, 45, 45, 45, 45, 45, 45, 45, 45, 45, 45, 45, 45, 45, 45, 45, 45, 45, 45, 45, 45, 45, 45, 45, 45, 45, 57, 57, 57, 57, 57, 57, 57, 57, 57, 57, 57, 57, 57, 57, 57, 57, 57, 57, 57, 57, 57, 57, 57, 57, 57, 57, 57, 57, 57, 57, 57, 57, 57, 57, 57, 57, 57, 57, 57, 57, 57, 57, 57, 57, 57, 57, 57, 57, 57, 57, 57, 57, 57, 57, 57, 57, 57, 57, 57, 57, 57, 57, 57, 57, 57, 57, 57, 57, 57, 57, 57, 57, 57, 57, 57, 57, 57, 57, 57, 57, 57, 57, 57, 57, 57, 57, 57, 57, 59, 59, 59]
def q_ni (y : Nat) : Nat := (q_niL[y]?).getD 0
theorem q_nat : (Jvm.natives.all fun r => r.cls != "java/lang/Math" || !(["(II)I", "(JJ)J"].contains r.desc)) = true := by decide +kernel
theorem q_plainM {x : MethodName} (hc : x.cls = "java/lang/Math") (hd : ["(II)I", "(JJ)J"].contains x.desc = true) : plainFor x = true := by
  unfold plainFor
  rw [Bool.or_eq_true]
  right
  rw [Option.isNone_iff_eq_none, NativeRow.find?, List.find?_eq_none]
  intro r hr h
  have := List.all_eq_true.mp q_nat r hr
  simp only [Bool.and_eq_true, beq_iff_eq] at h
  rw [h.1.2, h.2, hc, hd] at this
  simp at this
theorem q_okY1 : ∀ y, y < 208 → plainName (q_yn y).cls = true := by decide +kernel
set_option maxRecDepth 20000 in
theorem cw_0 : lw_tbl[349]? = some (.code (q_yn 0) (q_cc 0) (q_mx 0) (q_rt 0)) := by rfl
set_option maxRecDepth 20000 in
theorem cw_1 : lw_tbl[398]? = some (.code (q_yn 1) (q_cc 1) (q_mx 1) (q_rt 1)) := by rfl
set_option maxRecDepth 20000 in
theorem cw_2 : lw_tbl[402]? = some (.code (q_yn 2) (q_cc 2) (q_mx 2) (q_rt 2)) := by rfl
set_option maxRecDepth 20000 in
theorem cw_3 : lw_tbl[669]? = some (.code (q_yn 3) (q_cc 3) (q_mx 3) (q_rt 3)) := by rfl
set_option maxRecDepth 20000 in
theorem cw_4 : lw_tbl[678]? = some (.code (q_yn 4) (q_cc 4) (q_mx 4) (q_rt 4)) := by rfl
set_option maxRecDepth 20000 in
theorem cw_5 : lw_tbl[435]? = some (.code (q_yn 5) (q_cc 5) (q_mx 5) (q_rt 5)) := by rfl
set_option maxRecDepth 20000 in
theorem cw_6 : lw_tbl[837]? = some (.code (q_yn 6) (q_cc 6) (q_mx 6) (q_rt 6)) := by rfl
set_option maxRecDepth 20000 in
theorem cw_7 : lw_tbl[780]? = some (.code (q_yn 7) (q_cc 7) (q_mx 7) (q_rt 7)) := by rfl
set_option maxRecDepth 20000 in
theorem cw_8 : lw_tbl[773]? = some (.code (q_yn 8) (q_cc 8) (q_mx 8) (q_rt 8)) := by rfl
set_option maxRecDepth 20000 in
theorem cw_9 : lw_tbl[786]? = some (.code (q_yn 9) (q_cc 9) (q_mx 9) (q_rt 9)) := by rfl
set_option maxRecDepth 20000 in
theorem cw_10 : lw_tbl[450]? = some (.code (q_yn 10) (q_cc 10) (q_mx 10) (q_rt 10)) := by rfl
set_option maxRecDepth 20000 in
theorem cw_11 : lw_tbl[800]? = some (.code (q_yn 11) (q_cc 11) (q_mx 11) (q_rt 11)) := by rfl
set_option maxRecDepth 20000 in
theorem cw_12 : lw_tbl[829]? = some (.code (q_yn 12) (q_cc 12) (q_mx 12) (q_rt 12)) := by rfl
set_option maxRecDepth 20000 in
theorem cw_13 : lw_tbl[844]? = some (.code (q_yn 13) (q_cc 13) (q_mx 13) (q_rt 13)) := by rfl
set_option maxRecDepth 20000 in
theorem cw_14 : lw_tbl[441]? = some (.code (q_yn 14) (q_cc 14) (q_mx 14) (q_rt 14)) := by rfl
set_option maxRecDepth 20000 in
theorem cw_15 : lw_tbl[792]? = some (.code (q_yn 15) (q_cc 15) (q_mx 15) (q_rt 15)) := by rfl
set_option maxRecDepth 20000 in
theorem cw_16 : lw_tbl[579]? = some (.code (q_yn 16) (q_cc 16) (q_mx 16) (q_rt 16)) := by rfl
set_option maxRecDepth 20000 in
theorem cw_17 : lw_tbl[353]? = some (.code (q_yn 17) (q_cc 17) (q_mx 17) (q_rt 17)) := by rfl
set_option maxRecDepth 20000 in
theorem cw_18 : lw_tbl[604]? = some (.code (q_yn 18) (q_cc 18) (q_mx 18) (q_rt 18)) := by rfl
set_option maxRecDepth 20000 in
theorem cw_19 : lw_tbl[377]? = some (.code (q_yn 19) (q_cc 19) (q_mx 19) (q_rt 19)) := by rfl
set_option maxRecDepth 20000 in
theorem cw_20 : lw_tbl[381]? = some (.code (q_yn 20) (q_cc 20) (q_mx 20) (q_rt 20)) := by rfl
set_option maxRecDepth 20000 in
theorem cw_21 : lw_tbl[373]? = some (.code (q_yn 21) (q_cc 21) (q_mx 21) (q_rt 21)) := by rfl
set_option maxRecDepth 20000 in
theorem cw_22 : lw_tbl[369]? = some (.code (q_yn 22) (q_cc 22) (q_mx 22) (q_rt 22)) := by rfl
set_option maxRecDepth 20000 in
theorem cw_23 : lw_tbl[390]? = some (.code (q_yn 23) (q_cc 23) (q_mx 23) (q_rt 23)) := by rfl
set_option maxRecDepth 20000 in
theorem cw_24 : lw_tbl[394]? = some (.code (q_yn 24) (q_cc 24) (q_mx 24) (q_rt 24)) := by rfl
set_option maxRecDepth 20000 in
theorem cw_25 : lw_tbl[423]? = some (.code (q_yn 25) (q_cc 25) (q_mx 25) (q_rt 25)) := by rfl
set_option maxRecDepth 20000 in
theorem cw_26 : lw_tbl[386]? = some (.code (q_yn 26) (q_cc 26) (q_mx 26) (q_rt 26)) := by rfl
set_option maxRecDepth 20000 in
theorem cw_27 : lw_tbl[419]? = some (.code (q_yn 27) (q_cc 27) (q_mx 27) (q_rt 27)) := by rfl
set_option maxRecDepth 20000 in
theorem cw_28 : lw_tbl[428]? = some (.code (q_yn 28) (q_cc 28) (q_mx 28) (q_rt 28)) := by rfl
set_option maxRecDepth 20000 in
theorem cw_29 : lw_tbl[454]? = some (.code (q_yn 29) (q_cc 29) (q_mx 29) (q_rt 29)) := by rfl
set_option maxRecDepth 20000 in
theorem cw_30 : lw_tbl[459]? = some (.code (q_yn 30) (q_cc 30) (q_mx 30) (q_rt 30)) := by rfl
set_option maxRecDepth 20000 in
theorem cw_31 : lw_tbl[415]? = some (.code (q_yn 31) (q_cc 31) (q_mx 31) (q_rt 31)) := by rfl
set_option maxRecDepth 20000 in
theorem cw_32 : lw_tbl[464]? = some (.code (q_yn 32) (q_cc 32) (q_mx 32) (q_rt 32)) := by rfl
set_option maxRecDepth 20000 in
theorem cw_33 : lw_tbl[873]? = some (.code (q_yn 33) (q_cc 33) (q_mx 33) (q_rt 33)) := by rfl
set_option maxRecDepth 20000 in
theorem cw_34 : lw_tbl[648]? = some (.code (q_yn 34) (q_cc 34) (q_mx 34) (q_rt 34)) := by rfl
set_option maxRecDepth 20000 in
theorem cw_35 : lw_tbl[864]? = some (.code (q_yn 35) (q_cc 35) (q_mx 35) (q_rt 35)) := by rfl
set_option maxRecDepth 20000 in
theorem cw_36 : lw_tbl[480]? = some (.code (q_yn 36) (q_cc 36) (q_mx 36) (q_rt 36)) := by rfl
set_option maxRecDepth 20000 in
theorem cw_37 : lw_tbl[487]? = some (.code (q_yn 37) (q_cc 37) (q_mx 37) (q_rt 37)) := by rfl
set_option maxRecDepth 20000 in
theorem cw_38 : lw_tbl[491]? = some (.code (q_yn 38) (q_cc 38) (q_mx 38) (q_rt 38)) := by rfl
set_option maxRecDepth 20000 in
theorem cw_39 : lw_tbl[495]? = some (.code (q_yn 39) (q_cc 39) (q_mx 39) (q_rt 39)) := by rfl
set_option maxRecDepth 20000 in
theorem cw_40 : lw_tbl[500]? = some (.code (q_yn 40) (q_cc 40) (q_mx 40) (q_rt 40)) := by rfl
set_option maxRecDepth 20000 in
theorem cw_41 : lw_tbl[522]? = some (.code (q_yn 41) (q_cc 41) (q_mx 41) (q_rt 41)) := by rfl
set_option maxRecDepth 20000 in
theorem cw_42 : lw_tbl[534]? = some (.code (q_yn 42) (q_cc 42) (q_mx 42) (q_rt 42)) := by rfl
set_option maxRecDepth 20000 in
theorem cw_43 : lw_tbl[550]? = some (.code (q_yn 43) (q_cc 43) (q_mx 43) (q_rt 43)) := by rfl
set_option maxRecDepth 20000 in
theorem cw_44 : lw_tbl[631]? = some (.code (q_yn 44) (q_cc 44) (q_mx 44) (q_rt 44)) := by rfl
set_option maxRecDepth 20000 in
theorem cw_45 : lw_tbl[567]? = some (.code (q_yn 45) (q_cc 45) (q_mx 45) (q_rt 45)) := by rfl
set_option maxRecDepth 20000 in
theorem cw_46 : lw_tbl[438]? = some (.code (q_yn 46) (q_cc 46) (q_mx 46) (q_rt 46)) := by rfl
set_option maxRecDepth 20000 in
theorem cw_47 : lw_tbl[808]? = some (.code (q_yn 47) (q_cc 47) (q_mx 47) (q_rt 47)) := by rfl
set_option maxRecDepth 20000 in
theorem cw_48 : lw_tbl[619]? = some (.code (q_yn 48) (q_cc 48) (q_mx 48) (q_rt 48)) := by rfl
set_option maxRecDepth 20000 in
theorem cw_49 : lw_tbl[730]? = some (.code (q_yn 49) (q_cc 49) (q_mx 49) (q_rt 49)) := by rfl
set_option maxRecDepth 20000 in
theorem cw_50 : lw_tbl[738]? = some (.code (q_yn 50) (q_cc 50) (q_mx 50) (q_rt 50)) := by rfl
set_option maxRecDepth 20000 in
theorem cw_51 : lw_tbl[759]? = some (.code (q_yn 51) (q_cc 51) (q_mx 51) (q_rt 51)) := by rfl
set_option maxRecDepth 20000 in
theorem cw_52 : lw_tbl[742]? = some (.code (q_yn 52) (q_cc 52) (q_mx 52) (q_rt 52)) := by rfl
set_option maxRecDepth 20000 in
theorem cw_53 : lw_tbl[445]? = some (.code (q_yn 53) (q_cc 53) (q_mx 53) (q_rt 53)) := by rfl
set_option maxRecDepth 20000 in
theorem cw_54 : lw_tbl[818]? = some (.code (q_yn 54) (q_cc 54) (q_mx 54) (q_rt 54)) := by rfl
set_option maxRecDepth 20000 in
theorem cw_55 : lw_tbl[686]? = some (.code (q_yn 55) (q_cc 55) (q_mx 55) (q_rt 55)) := by rfl
set_option maxRecDepth 20000 in
theorem cw_56 : lw_tbl[701]? = some (.code (q_yn 56) (q_cc 56) (q_mx 56) (q_rt 56)) := by rfl
set_option maxRecDepth 20000 in
theorem cw_57 : lw_tbl[704]? = some (.code (q_yn 57) (q_cc 57) (q_mx 57) (q_rt 57)) := by rfl
set_option maxRecDepth 20000 in
theorem cw_58 : lw_tbl[698]? = some (.code (q_yn 58) (q_cc 58) (q_mx 58) (q_rt 58)) := by rfl
set_option maxRecDepth 20000 in
theorem cw_59 : lw_tbl[712]? = some (.code (q_yn 59) (q_cc 59) (q_mx 59) (q_rt 59)) := by rfl
set_option maxRecDepth 20000 in
theorem cw_60 : lw_tbl[716]? = some (.code (q_yn 60) (q_cc 60) (q_mx 60) (q_rt 60)) := by rfl
set_option maxRecDepth 20000 in
theorem cw_61 : lw_tbl[335]? = some (.code (q_yn 61) (q_cc 61) (q_mx 61) (q_rt 61)) := by rfl
set_option maxRecDepth 20000 in
theorem cw_62 : lw_tbl[357]? = some (.code (q_yn 62) (q_cc 62) (q_mx 62) (q_rt 62)) := by rfl
set_option maxRecDepth 20000 in
theorem cw_63 : lw_tbl[361]? = some (.code (q_yn 63) (q_cc 63) (q_mx 63) (q_rt 63)) := by rfl
set_option maxRecDepth 20000 in
theorem cw_64 : lw_tbl[365]? = some (.code (q_yn 64) (q_cc 64) (q_mx 64) (q_rt 64)) := by rfl
set_option maxRecDepth 20000 in
theorem cw_65 : lw_tbl[409]? = some (.code (q_yn 65) (q_cc 65) (q_mx 65) (q_rt 65)) := by rfl
set_option maxRecDepth 20000 in
theorem cw_66 : lw_tbl[470]? = some (.code (q_yn 66) (q_cc 66) (q_mx 66) (q_rt 66)) := by rfl
set_option maxRecDepth 20000 in
theorem cw_67 : lw_tbl[504]? = some (.code (q_yn 67) (q_cc 67) (q_mx 67) (q_rt 67)) := by rfl
set_option maxRecDepth 20000 in
theorem cw_68 : lw_tbl[509]? = some (.code (q_yn 68) (q_cc 68) (q_mx 68) (q_rt 68)) := by rfl
set_option maxRecDepth 20000 in
theorem cw_69 : lw_tbl[514]? = some (.code (q_yn 69) (q_cc 69) (q_mx 69) (q_rt 69)) := by rfl
set_option maxRecDepth 20000 in
theorem cw_70 : lw_tbl[518]? = some (.code (q_yn 70) (q_cc 70) (q_mx 70) (q_rt 70)) := by rfl
set_option maxRecDepth 20000 in
theorem cw_71 : lw_tbl[530]? = some (.code (q_yn 71) (q_cc 71) (q_mx 71) (q_rt 71)) := by rfl
set_option maxRecDepth 20000 in
theorem cw_72 : lw_tbl[542]? = some (.code (q_yn 72) (q_cc 72) (q_mx 72) (q_rt 72)) := by rfl
set_option maxRecDepth 20000 in
theorem cw_73 : lw_tbl[556]? = some (.code (q_yn 73) (q_cc 73) (q_mx 73) (q_rt 73)) := by rfl
set_option maxRecDepth 20000 in
theorem cw_74 : lw_tbl[560]? = some (.code (q_yn 74) (q_cc 74) (q_mx 74) (q_rt 74)) := by rfl
set_option maxRecDepth 20000 in
theorem cw_75 : lw_tbl[571]? = some (.code (q_yn 75) (q_cc 75) (q_mx 75) (q_rt 75)) := by rfl
set_option maxRecDepth 20000 in
theorem cw_76 : lw_tbl[575]? = some (.code (q_yn 76) (q_cc 76) (q_mx 76) (q_rt 76)) := by rfl
set_option maxRecDepth 20000 in
theorem cw_77 : lw_tbl[592]? = some (.code (q_yn 77) (q_cc 77) (q_mx 77) (q_rt 77)) := by rfl
set_option maxRecDepth 20000 in
theorem cw_78 : lw_tbl[596]? = some (.code (q_yn 78) (q_cc 78) (q_mx 78) (q_rt 78)) := by rfl
set_option maxRecDepth 20000 in
theorem cw_79 : lw_tbl[600]? = some (.code (q_yn 79) (q_cc 79) (q_mx 79) (q_rt 79)) := by rfl
set_option maxRecDepth 20000 in
theorem cw_80 : lw_tbl[608]? = some (.code (q_yn 80) (q_cc 80) (q_mx 80) (q_rt 80)) := by rfl
set_option maxRecDepth 20000 in
theorem cw_81 : lw_tbl[612]? = some (.code (q_yn 81) (q_cc 81) (q_mx 81) (q_rt 81)) := by rfl
set_option maxRecDepth 20000 in
theorem cw_82 : lw_tbl[640]? = some (.code (q_yn 82) (q_cc 82) (q_mx 82) (q_rt 82)) := by rfl
set_option maxRecDepth 20000 in
theorem cw_83 : lw_tbl[644]? = some (.code (q_yn 83) (q_cc 83) (q_mx 83) (q_rt 83)) := by rfl
set_option maxRecDepth 20000 in
theorem cw_84 : lw_tbl[652]? = some (.code (q_yn 84) (q_cc 84) (q_mx 84) (q_rt 84)) := by rfl
set_option maxRecDepth 20000 in
theorem cw_85 : lw_tbl[656]? = some (.code (q_yn 85) (q_cc 85) (q_mx 85) (q_rt 85)) := by rfl
set_option maxRecDepth 20000 in
theorem cw_86 : lw_tbl[661]? = some (.code (q_yn 86) (q_cc 86) (q_mx 86) (q_rt 86)) := by rfl
set_option maxRecDepth 20000 in
theorem cw_87 : lw_tbl[665]? = some (.code (q_yn 87) (q_cc 87) (q_mx 87) (q_rt 87)) := by rfl
set_option maxRecDepth 20000 in
theorem cw_88 : lw_tbl[674]? = some (.code (q_yn 88) (q_cc 88) (q_mx 88) (q_rt 88)) := by rfl
set_option maxRecDepth 20000 in
theorem cw_89 : lw_tbl[682]? = some (.code (q_yn 89) (q_cc 89) (q_mx 89) (q_rt 89)) := by rfl
set_option maxRecDepth 20000 in
theorem cw_90 : lw_tbl[690]? = some (.code (q_yn 90) (q_cc 90) (q_mx 90) (q_rt 90)) := by rfl
set_option maxRecDepth 20000 in
theorem cw_91 : lw_tbl[694]? = some (.code (q_yn 91) (q_cc 91) (q_mx 91) (q_rt 91)) := by rfl
set_option maxRecDepth 20000 in
theorem cw_92 : lw_tbl[726]? = some (.code (q_yn 92) (q_cc 92) (q_mx 92) (q_rt 92)) := by rfl
set_option maxRecDepth 20000 in
theorem cw_93 : lw_tbl[734]? = some (.code (q_yn 93) (q_cc 93) (q_mx 93) (q_rt 93)) := by rfl
set_option maxRecDepth 20000 in
theorem cw_94 : lw_tbl[746]? = some (.code (q_yn 94) (q_cc 94) (q_mx 94) (q_rt 94)) := by rfl
set_option maxRecDepth 20000 in
theorem cw_95 : lw_tbl[751]? = some (.code (q_yn 95) (q_cc 95) (q_mx 95) (q_rt 95)) := by rfl
set_option maxRecDepth 20000 in
theorem cw_96 : lw_tbl[755]? = some (.code (q_yn 96) (q_cc 96) (q_mx 96) (q_rt 96)) := by rfl
set_option maxRecDepth 20000 in
theorem cw_97 : lw_tbl[764]? = some (.code (q_yn 97) (q_cc 97) (q_mx 97) (q_rt 97)) := by rfl
set_option maxRecDepth 20000 in
theorem cw_98 : lw_tbl[849]? = some (.code (q_yn 98) (q_cc 98) (q_mx 98) (q_rt 98)) := by rfl
set_option maxRecDepth 20000 in
theorem cw_99 : lw_tbl[853]? = some (.code (q_yn 99) (q_cc 99) (q_mx 99) (q_rt 99)) := by rfl
set_option maxRecDepth 20000 in
theorem cw_100 : lw_tbl[860]? = some (.code (q_yn 100) (q_cc 100) (q_mx 100) (q_rt 100)) := by rfl
set_option maxRecDepth 20000 in
theorem cw_101 : lw_tbl[869]? = some (.code (q_yn 101) (q_cc 101) (q_mx 101) (q_rt 101)) := by rfl
set_option maxRecDepth 20000 in
theorem cw_102 : lw_tbl[878]? = some (.code (q_yn 102) (q_cc 102) (q_mx 102) (q_rt 102)) := by rfl
set_option maxRecDepth 20000 in
theorem cw_103 : lw_tbl[882]? = some (.code (q_yn 103) (q_cc 103) (q_mx 103) (q_rt 103)) := by rfl
set_option maxRecDepth 20000 in
theorem cw_104 : lw_tbl[338]? = some (.code (q_yn 104) (q_cc 104) (q_mx 104) (q_rt 104)) := by rfl
set_option maxRecDepth 20000 in
theorem cw_105 : lw_tbl[341]? = some (.code (q_yn 105) (q_cc 105) (q_mx 105) (q_rt 105)) := by rfl
set_option maxRecDepth 20000 in
theorem cw_106 : lw_tbl[476]? = some (.code (q_yn 106) (q_cc 106) (q_mx 106) (q_rt 106)) := by rfl
set_option maxRecDepth 20000 in
theorem cw_107 : lw_tbl[473]? = some (.code (q_yn 107) (q_cc 107) (q_mx 107) (q_rt 107)) := by rfl
set_option maxRecDepth 20000 in
theorem cw_108 : lw_tbl[563]? = some (.code (q_yn 108) (q_cc 108) (q_mx 108) (q_rt 108)) := by rfl
set_option maxRecDepth 20000 in
theorem cw_109 : lw_tbl[615]? = some (.code (q_yn 109) (q_cc 109) (q_mx 109) (q_rt 109)) := by rfl
set_option maxRecDepth 20000 in
theorem cw_110 : lw_tbl[856]? = some (.code (q_yn 110) (q_cc 110) (q_mx 110) (q_rt 110)) := by rfl
set_option maxRecDepth 20000 in
theorem cw_111 : lw_tbl[887]? = some (.code (q_yn 111) (q_cc 111) (q_mx 111) (q_rt 111)) := by rfl
set_option maxRecDepth 20000 in
theorem cw_112 : lw_tbl[546]? = some (.code (q_yn 112) (q_cc 112) (q_mx 112) (q_rt 112)) := by rfl
set_option maxRecDepth 20000 in
theorem cw_113 : lw_tbl[588]? = some (.code (q_yn 113) (q_cc 113) (q_mx 113) (q_rt 113)) := by rfl
set_option maxRecDepth 20000 in
theorem cw_114 : lw_tbl[584]? = some (.code (q_yn 114) (q_cc 114) (q_mx 114) (q_rt 114)) := by rfl
set_option maxRecDepth 20000 in
theorem cw_115 : lw_tbl[627]? = some (.code (q_yn 115) (q_cc 115) (q_mx 115) (q_rt 115)) := by rfl
set_option maxRecDepth 20000 in
theorem cw_116 : lw_tbl[636]? = some (.code (q_yn 116) (q_cc 116) (q_mx 116) (q_rt 116)) := by rfl
set_option maxRecDepth 20000 in
theorem cw_117 : lw_tbl[623]? = some (.code (q_yn 117) (q_cc 117) (q_mx 117) (q_rt 117)) := by rfl
set_option maxRecDepth 20000 in
theorem cw_118 : lw_tbl[708]? = some (.code (q_yn 118) (q_cc 118) (q_mx 118) (q_rt 118)) := by rfl
set_option maxRecDepth 20000 in
theorem cw_119 : lw_tbl[720]? = some (.code (q_yn 119) (q_cc 119) (q_mx 119) (q_rt 119)) := by rfl
set_option maxRecDepth 20000 in
theorem cw_120 : lw_tbl[1042]? = some (.code (q_yn 120) (q_cc 120) (q_mx 120) (q_rt 120)) := by rfl
set_option maxRecDepth 20000 in
theorem cw_121 : lw_tbl[1070]? = some (.code (q_yn 121) (q_cc 121) (q_mx 121) (q_rt 121)) := by rfl
set_option maxRecDepth 20000 in
theorem cw_122 : lw_tbl[1074]? = some (.code (q_yn 122) (q_cc 122) (q_mx 122) (q_rt 122)) := by rfl
set_option maxRecDepth 20000 in
theorem cw_123 : lw_tbl[1126]? = some (.code (q_yn 123) (q_cc 123) (q_mx 123) (q_rt 123)) := by rfl
set_option maxRecDepth 20000 in
theorem cw_124 : lw_tbl[1123]? = some (.code (q_yn 124) (q_cc 124) (q_mx 124) (q_rt 124)) := by rfl
set_option maxRecDepth 20000 in
theorem cw_125 : lw_tbl[1116]? = some (.code (q_yn 125) (q_cc 125) (q_mx 125) (q_rt 125)) := by rfl
set_option maxRecDepth 20000 in
theorem cw_126 : lw_tbl[1112]? = some (.code (q_yn 126) (q_cc 126) (q_mx 126) (q_rt 126)) := by rfl
set_option maxRecDepth 20000 in
theorem cw_127 : lw_tbl[1084]? = some (.code (q_yn 127) (q_cc 127) (q_mx 127) (q_rt 127)) := by rfl
set_option maxRecDepth 20000 in
theorem cw_128 : lw_tbl[1139]? = some (.code (q_yn 128) (q_cc 128) (q_mx 128) (q_rt 128)) := by rfl
set_option maxRecDepth 20000 in
theorem cw_129 : lw_tbl[1142]? = some (.code (q_yn 129) (q_cc 129) (q_mx 129) (q_rt 129)) := by rfl
set_option maxRecDepth 20000 in
theorem cw_130 : lw_tbl[1134]? = some (.code (q_yn 130) (q_cc 130) (q_mx 130) (q_rt 130)) := by rfl
set_option maxRecDepth 20000 in
theorem cw_131 : lw_tbl[1130]? = some (.code (q_yn 131) (q_cc 131) (q_mx 131) (q_rt 131)) := by rfl
set_option maxRecDepth 20000 in
theorem cw_132 : lw_tbl[1167]? = some (.code (q_yn 132) (q_cc 132) (q_mx 132) (q_rt 132)) := by rfl
set_option maxRecDepth 20000 in
theorem cw_133 : lw_tbl[1179]? = some (.code (q_yn 133) (q_cc 133) (q_mx 133) (q_rt 133)) := by rfl
set_option maxRecDepth 20000 in
theorem cw_134 : lw_tbl[1046]? = some (.code (q_yn 134) (q_cc 134) (q_mx 134) (q_rt 134)) := by rfl
set_option maxRecDepth 20000 in
theorem cw_135 : lw_tbl[1039]? = some (.code (q_yn 135) (q_cc 135) (q_mx 135) (q_rt 135)) := by rfl
set_option maxRecDepth 20000 in
theorem cw_136 : lw_tbl[1050]? = some (.code (q_yn 136) (q_cc 136) (q_mx 136) (q_rt 136)) := by rfl
set_option maxRecDepth 20000 in
theorem cw_137 : lw_tbl[1054]? = some (.code (q_yn 137) (q_cc 137) (q_mx 137) (q_rt 137)) := by rfl
set_option maxRecDepth 20000 in
theorem cw_138 : lw_tbl[1088]? = some (.code (q_yn 138) (q_cc 138) (q_mx 138) (q_rt 138)) := by rfl
set_option maxRecDepth 20000 in
theorem cw_139 : lw_tbl[1096]? = some (.code (q_yn 139) (q_cc 139) (q_mx 139) (q_rt 139)) := by rfl
set_option maxRecDepth 20000 in
theorem cw_140 : lw_tbl[1066]? = some (.code (q_yn 140) (q_cc 140) (q_mx 140) (q_rt 140)) := by rfl
set_option maxRecDepth 20000 in
theorem cw_141 : lw_tbl[1077]? = some (.code (q_yn 141) (q_cc 141) (q_mx 141) (q_rt 141)) := by rfl
set_option maxRecDepth 20000 in
theorem cw_142 : lw_tbl[1080]? = some (.code (q_yn 142) (q_cc 142) (q_mx 142) (q_rt 142)) := by rfl
set_option maxRecDepth 20000 in
theorem cw_143 : lw_tbl[1062]? = some (.code (q_yn 143) (q_cc 143) (q_mx 143) (q_rt 143)) := by rfl
set_option maxRecDepth 20000 in
theorem cw_144 : lw_tbl[1092]? = some (.code (q_yn 144) (q_cc 144) (q_mx 144) (q_rt 144)) := by rfl
set_option maxRecDepth 20000 in
theorem cw_145 : lw_tbl[1058]? = some (.code (q_yn 145) (q_cc 145) (q_mx 145) (q_rt 145)) := by rfl
set_option maxRecDepth 20000 in
theorem cw_146 : lw_tbl[1100]? = some (.code (q_yn 146) (q_cc 146) (q_mx 146) (q_rt 146)) := by rfl
set_option maxRecDepth 20000 in
theorem cw_147 : lw_tbl[1104]? = some (.code (q_yn 147) (q_cc 147) (q_mx 147) (q_rt 147)) := by rfl
set_option maxRecDepth 20000 in
theorem cw_148 : lw_tbl[1108]? = some (.code (q_yn 148) (q_cc 148) (q_mx 148) (q_rt 148)) := by rfl
set_option maxRecDepth 20000 in
theorem cw_149 : lw_tbl[1120]? = some (.code (q_yn 149) (q_cc 149) (q_mx 149) (q_rt 149)) := by rfl
set_option maxRecDepth 20000 in
theorem cw_150 : lw_tbl[1147]? = some (.code (q_yn 150) (q_cc 150) (q_mx 150) (q_rt 150)) := by rfl
set_option maxRecDepth 20000 in
theorem cw_151 : lw_tbl[1151]? = some (.code (q_yn 151) (q_cc 151) (q_mx 151) (q_rt 151)) := by rfl
set_option maxRecDepth 20000 in
theorem cw_152 : lw_tbl[1155]? = some (.code (q_yn 152) (q_cc 152) (q_mx 152) (q_rt 152)) := by rfl
set_option maxRecDepth 20000 in
theorem cw_153 : lw_tbl[1159]? = some (.code (q_yn 153) (q_cc 153) (q_mx 153) (q_rt 153)) := by rfl
set_option maxRecDepth 20000 in
theorem cw_154 : lw_tbl[1163]? = some (.code (q_yn 154) (q_cc 154) (q_mx 154) (q_rt 154)) := by rfl
set_option maxRecDepth 20000 in
theorem cw_155 : lw_tbl[1175]? = some (.code (q_yn 155) (q_cc 155) (q_mx 155) (q_rt 155)) := by rfl
set_option maxRecDepth 20000 in
theorem cw_156 : lw_tbl[1171]? = some (.code (q_yn 156) (q_cc 156) (q_mx 156) (q_rt 156)) := by rfl
set_option maxRecDepth 20000 in
theorem cw_157 : lw_tbl[1183]? = some (.code (q_yn 157) (q_cc 157) (q_mx 157) (q_rt 157)) := by rfl
set_option maxRecDepth 20000 in
theorem cw_158 : lw_tbl[1190]? = some (.code (q_yn 158) (q_cc 158) (q_mx 158) (q_rt 158)) := by rfl
set_option maxRecDepth 20000 in
theorem cw_159 : lw_tbl[1194]? = some (.code (q_yn 159) (q_cc 159) (q_mx 159) (q_rt 159)) := by rfl
set_option maxRecDepth 20000 in
theorem cw_160 : lw_tbl[1187]? = some (.code (q_yn 160) (q_cc 160) (q_mx 160) (q_rt 160)) := by rfl
set_option maxRecDepth 20000 in
theorem cw_161 : lw_tbl[1198]? = some (.code (q_yn 161) (q_cc 161) (q_mx 161) (q_rt 161)) := by rfl
set_option maxRecDepth 20000 in
theorem cw_162 : lw_tbl[1202]? = some (.code (q_yn 162) (q_cc 162) (q_mx 162) (q_rt 162)) := by rfl
set_option maxRecDepth 20000 in
theorem cw_163 : lw_tbl[1206]? = some (.code (q_yn 163) (q_cc 163) (q_mx 163) (q_rt 163)) := by rfl
set_option maxRecDepth 20000 in
theorem cw_164 : lw_tbl[1210]? = some (.code (q_yn 164) (q_cc 164) (q_mx 164) (q_rt 164)) := by rfl
set_option maxRecDepth 20000 in
theorem cw_165 : lw_tbl[1218]? = some (.code (q_yn 165) (q_cc 165) (q_mx 165) (q_rt 165)) := by rfl
set_option maxRecDepth 20000 in
theorem cw_166 : lw_tbl[1214]? = some (.code (q_yn 166) (q_cc 166) (q_mx 166) (q_rt 166)) := by rfl
set_option maxRecDepth 20000 in
theorem cw_167 : lw_tbl[1222]? = some (.code (q_yn 167) (q_cc 167) (q_mx 167) (q_rt 167)) := by rfl
set_option maxRecDepth 20000 in
theorem cw_168 : lw_tbl[1229]? = some (.code (q_yn 168) (q_cc 168) (q_mx 168) (q_rt 168)) := by rfl
set_option maxRecDepth 20000 in
theorem cw_169 : lw_tbl[1236]? = some (.code (q_yn 169) (q_cc 169) (q_mx 169) (q_rt 169)) := by rfl
set_option maxRecDepth 20000 in
theorem cw_170 : lw_tbl[1226]? = some (.code (q_yn 170) (q_cc 170) (q_mx 170) (q_rt 170)) := by rfl
set_option maxRecDepth 20000 in
theorem cw_171 : lw_tbl[1233]? = some (.code (q_yn 171) (q_cc 171) (q_mx 171) (q_rt 171)) := by rfl
set_option maxRecDepth 20000 in
theorem cw_172 : lw_tbl[1240]? = some (.code (q_yn 172) (q_cc 172) (q_mx 172) (q_rt 172)) := by rfl
set_option maxRecDepth 20000 in
theorem cw_173 : lw_tbl[1245]? = some (.code (q_yn 173) (q_cc 173) (q_mx 173) (q_rt 173)) := by rfl
set_option maxRecDepth 20000 in
theorem cw_174 : lw_tbl[1249]? = some (.code (q_yn 174) (q_cc 174) (q_mx 174) (q_rt 174)) := by rfl
set_option maxRecDepth 20000 in
theorem cw_175 : lw_tbl[1261]? = some (.code (q_yn 175) (q_cc 175) (q_mx 175) (q_rt 175)) := by rfl
set_option maxRecDepth 20000 in
theorem cw_176 : lw_tbl[1253]? = some (.code (q_yn 176) (q_cc 176) (q_mx 176) (q_rt 176)) := by rfl
set_option maxRecDepth 20000 in
theorem cw_177 : lw_tbl[1257]? = some (.code (q_yn 177) (q_cc 177) (q_mx 177) (q_rt 177)) := by rfl
set_option maxRecDepth 20000 in
theorem cw_178 : lw_tbl[1265]? = some (.code (q_yn 178) (q_cc 178) (q_mx 178) (q_rt 178)) := by rfl
set_option maxRecDepth 20000 in
theorem cw_179 : lw_tbl[1269]? = some (.code (q_yn 179) (q_cc 179) (q_mx 179) (q_rt 179)) := by rfl
set_option maxRecDepth 20000 in
theorem cw_180 : lw_tbl[1273]? = some (.code (q_yn 180) (q_cc 180) (q_mx 180) (q_rt 180)) := by rfl
set_option maxRecDepth 20000 in
theorem cw_181 : lw_tbl[1277]? = some (.code (q_yn 181) (q_cc 181) (q_mx 181) (q_rt 181)) := by rfl
set_option maxRecDepth 20000 in
theorem cw_182 : lw_tbl[1293]? = some (.code (q_yn 182) (q_cc 182) (q_mx 182) (q_rt 182)) := by rfl
set_option maxRecDepth 20000 in
theorem cw_183 : lw_tbl[1298]? = some (.code (q_yn 183) (q_cc 183) (q_mx 183) (q_rt 183)) := by rfl
set_option maxRecDepth 20000 in
theorem cw_184 : lw_tbl[1302]? = some (.code (q_yn 184) (q_cc 184) (q_mx 184) (q_rt 184)) := by rfl
set_option maxRecDepth 20000 in
theorem cw_185 : lw_tbl[1306]? = some (.code (q_yn 185) (q_cc 185) (q_mx 185) (q_rt 185)) := by rfl
set_option maxRecDepth 20000 in
theorem cw_186 : lw_tbl[1322]? = some (.code (q_yn 186) (q_cc 186) (q_mx 186) (q_rt 186)) := by rfl
set_option maxRecDepth 20000 in
theorem cw_187 : lw_tbl[1325]? = some (.code (q_yn 187) (q_cc 187) (q_mx 187) (q_rt 187)) := by rfl
set_option maxRecDepth 20000 in
theorem cw_188 : lw_tbl[1329]? = some (.code (q_yn 188) (q_cc 188) (q_mx 188) (q_rt 188)) := by rfl
set_option maxRecDepth 20000 in
theorem cw_189 : lw_tbl[1318]? = some (.code (q_yn 189) (q_cc 189) (q_mx 189) (q_rt 189)) := by rfl
set_option maxRecDepth 20000 in
theorem cw_190 : lw_tbl[1314]? = some (.code (q_yn 190) (q_cc 190) (q_mx 190) (q_rt 190)) := by rfl
set_option maxRecDepth 20000 in
theorem cw_191 : lw_tbl[1333]? = some (.code (q_yn 191) (q_cc 191) (q_mx 191) (q_rt 191)) := by rfl
set_option maxRecDepth 20000 in
theorem cw_192 : lw_tbl[1310]? = some (.code (q_yn 192) (q_cc 192) (q_mx 192) (q_rt 192)) := by rfl
set_option maxRecDepth 20000 in
theorem cw_193 : lw_tbl[1347]? = some (.code (q_yn 193) (q_cc 193) (q_mx 193) (q_rt 193)) := by rfl
set_option maxRecDepth 20000 in
theorem cw_194 : lw_tbl[1343]? = some (.code (q_yn 194) (q_cc 194) (q_mx 194) (q_rt 194)) := by rfl
set_option maxRecDepth 20000 in
theorem cw_195 : lw_tbl[1351]? = some (.code (q_yn 195) (q_cc 195) (q_mx 195) (q_rt 195)) := by rfl
set_option maxRecDepth 20000 in
theorem cw_196 : lw_tbl[1355]? = some (.code (q_yn 196) (q_cc 196) (q_mx 196) (q_rt 196)) := by rfl
set_option maxRecDepth 20000 in
theorem cw_197 : lw_tbl[1339]? = some (.code (q_yn 197) (q_cc 197) (q_mx 197) (q_rt 197)) := by rfl
set_option maxRecDepth 20000 in
theorem cw_198 : lw_tbl[1359]? = some (.code (q_yn 198) (q_cc 198) (q_mx 198) (q_rt 198)) := by rfl
set_option maxRecDepth 20000 in
theorem cw_199 : lw_tbl[1363]? = some (.code (q_yn 199) (q_cc 199) (q_mx 199) (q_rt 199)) := by rfl
set_option maxRecDepth 20000 in
theorem cw_200 : lw_tbl[1285]? = some (.code (q_yn 200) (q_cc 200) (q_mx 200) (q_rt 200)) := by rfl
set_option maxRecDepth 20000 in
theorem cw_201 : lw_tbl[1289]? = some (.code (q_yn 201) (q_cc 201) (q_mx 201) (q_rt 201)) := by rfl
set_option maxRecDepth 20000 in
theorem cw_202 : lw_tbl[1281]? = some (.code (q_yn 202) (q_cc 202) (q_mx 202) (q_rt 202)) := by rfl
set_option maxRecDepth 20000 in
theorem cw_203 : lw_tbl[1367]? = some (.code (q_yn 203) (q_cc 203) (q_mx 203) (q_rt 203)) := by rfl
set_option maxRecDepth 20000 in
theorem cw_204 : lw_tbl[1371]? = some (.code (q_yn 204) (q_cc 204) (q_mx 204) (q_rt 204)) := by rfl
set_option maxRecDepth 20000 in
theorem cw_205 : lw_tbl[1375]? = some (.code (q_yn 205) (q_cc 205) (q_mx 205) (q_rt 205)) := by rfl
set_option maxRecDepth 20000 in
theorem cw_206 : lw_tbl[1383]? = some (.code (q_yn 206) (q_cc 206) (q_mx 206) (q_rt 206)) := by rfl
set_option maxRecDepth 20000 in
theorem cw_207 : lw_tbl[1379]? = some (.code (q_yn 207) (q_cc 207) (q_mx 207) (q_rt 207)) := by rfl
set_option maxRecDepth 20000 in
theorem cw_208 : lw_tbl[449]? = some (.code (q_yn 208) (q_cc 208) (q_mx 208) (q_rt 208)) := by rfl
set_option maxRecDepth 20000 in
theorem cw_209 : lw_tbl[526]? = some (.code (q_yn 209) (q_cc 209) (q_mx 209) (q_rt 209)) := by rfl
set_option maxRecDepth 20000 in
theorem cw_210 : lw_tbl[538]? = some (.code (q_yn 210) (q_cc 210) (q_mx 210) (q_rt 210)) := by rfl
theorem q_okY3 : ∀ y, y < 211 → lw_tbl[q_ni y]? = some (.initialized (q_yn y).cls) := by decide +kernel
theorem q_okY4 : ∀ y, y < 211 → ((q_yn y).cls ≠ "java/lang/invoke/MethodHandle" ∧ (q_yn y).cls ≠ "java/lang/invoke/VarHandle") := by decide +kernel
theorem yk_0 : q_okY 0 := ⟨plainFor_of_name (q_okY1 0 (by decide)), q_in _ cw_0 rfl, q_in _ (q_okY3 0 (by decide)) rfl, q_okY4 0 (by decide)⟩
theorem yk_1 : q_okY 1 := ⟨plainFor_of_name (q_okY1 1 (by decide)), q_in _ cw_1 rfl, q_in _ (q_okY3 1 (by decide)) rfl, q_okY4 1 (by decide)⟩
theorem yk_2 : q_okY 2 := ⟨plainFor_of_name (q_okY1 2 (by decide)), q_in _ cw_2 rfl, q_in _ (q_okY3 2 (by decide)) rfl, q_okY4 2 (by decide)⟩
theorem yk_3 : q_okY 3 := ⟨plainFor_of_name (q_okY1 3 (by decide)), q_in _ cw_3 rfl, q_in _ (q_okY3 3 (by decide)) rfl, q_okY4 3 (by decide)⟩
theorem yk_4 : q_okY 4 := ⟨plainFor_of_name (q_okY1 4 (by decide)), q_in _ cw_4 rfl, q_in _ (q_okY3 4 (by decide)) rfl, q_okY4 4 (by decide)⟩
theorem yk_5 : q_okY 5 := ⟨plainFor_of_name (q_okY1 5 (by decide)), q_in _ cw_5 rfl, q_in _ (q_okY3 5 (by decide)) rfl, q_okY4 5 (by decide)⟩
theorem yk_6 : q_okY 6 := ⟨plainFor_of_name (q_okY1 6 (by decide)), q_in _ cw_6 rfl, q_in _ (q_okY3 6 (by decide)) rfl, q_okY4 6 (by decide)⟩
theorem yk_7 : q_okY 7 := ⟨plainFor_of_name (q_okY1 7 (by decide)), q_in _ cw_7 rfl, q_in _ (q_okY3 7 (by decide)) rfl, q_okY4 7 (by decide)⟩
theorem yk_8 : q_okY 8 := ⟨plainFor_of_name (q_okY1 8 (by decide)), q_in _ cw_8 rfl, q_in _ (q_okY3 8 (by decide)) rfl, q_okY4 8 (by decide)⟩
theorem yk_9 : q_okY 9 := ⟨plainFor_of_name (q_okY1 9 (by decide)), q_in _ cw_9 rfl, q_in _ (q_okY3 9 (by decide)) rfl, q_okY4 9 (by decide)⟩
theorem yk_10 : q_okY 10 := ⟨plainFor_of_name (q_okY1 10 (by decide)), q_in _ cw_10 rfl, q_in _ (q_okY3 10 (by decide)) rfl, q_okY4 10 (by decide)⟩
theorem yk_11 : q_okY 11 := ⟨plainFor_of_name (q_okY1 11 (by decide)), q_in _ cw_11 rfl, q_in _ (q_okY3 11 (by decide)) rfl, q_okY4 11 (by decide)⟩
theorem yk_12 : q_okY 12 := ⟨plainFor_of_name (q_okY1 12 (by decide)), q_in _ cw_12 rfl, q_in _ (q_okY3 12 (by decide)) rfl, q_okY4 12 (by decide)⟩
theorem yk_13 : q_okY 13 := ⟨plainFor_of_name (q_okY1 13 (by decide)), q_in _ cw_13 rfl, q_in _ (q_okY3 13 (by decide)) rfl, q_okY4 13 (by decide)⟩
theorem yk_14 : q_okY 14 := ⟨plainFor_of_name (q_okY1 14 (by decide)), q_in _ cw_14 rfl, q_in _ (q_okY3 14 (by decide)) rfl, q_okY4 14 (by decide)⟩
theorem yk_15 : q_okY 15 := ⟨plainFor_of_name (q_okY1 15 (by decide)), q_in _ cw_15 rfl, q_in _ (q_okY3 15 (by decide)) rfl, q_okY4 15 (by decide)⟩
theorem yk_16 : q_okY 16 := ⟨plainFor_of_name (q_okY1 16 (by decide)), q_in _ cw_16 rfl, q_in _ (q_okY3 16 (by decide)) rfl, q_okY4 16 (by decide)⟩
theorem yk_17 : q_okY 17 := ⟨plainFor_of_name (q_okY1 17 (by decide)), q_in _ cw_17 rfl, q_in _ (q_okY3 17 (by decide)) rfl, q_okY4 17 (by decide)⟩
theorem yk_18 : q_okY 18 := ⟨plainFor_of_name (q_okY1 18 (by decide)), q_in _ cw_18 rfl, q_in _ (q_okY3 18 (by decide)) rfl, q_okY4 18 (by decide)⟩
theorem yk_19 : q_okY 19 := ⟨plainFor_of_name (q_okY1 19 (by decide)), q_in _ cw_19 rfl, q_in _ (q_okY3 19 (by decide)) rfl, q_okY4 19 (by decide)⟩
theorem yk_20 : q_okY 20 := ⟨plainFor_of_name (q_okY1 20 (by decide)), q_in _ cw_20 rfl, q_in _ (q_okY3 20 (by decide)) rfl, q_okY4 20 (by decide)⟩
theorem yk_21 : q_okY 21 := ⟨plainFor_of_name (q_okY1 21 (by decide)), q_in _ cw_21 rfl, q_in _ (q_okY3 21 (by decide)) rfl, q_okY4 21 (by decide)⟩
theorem yk_22 : q_okY 22 := ⟨plainFor_of_name (q_okY1 22 (by decide)), q_in _ cw_22 rfl, q_in _ (q_okY3 22 (by decide)) rfl, q_okY4 22 (by decide)⟩
theorem yk_23 : q_okY 23 := ⟨plainFor_of_name (q_okY1 23 (by decide)), q_in _ cw_23 rfl, q_in _ (q_okY3 23 (by decide)) rfl, q_okY4 23 (by decide)⟩
theorem yk_24 : q_okY 24 := ⟨plainFor_of_name (q_okY1 24 (by decide)), q_in _ cw_24 rfl, q_in _ (q_okY3 24 (by decide)) rfl, q_okY4 24 (by decide)⟩
theorem yk_25 : q_okY 25 := ⟨plainFor_of_name (q_okY1 25 (by decide)), q_in _ cw_25 rfl, q_in _ (q_okY3 25 (by decide)) rfl, q_okY4 25 (by decide)⟩
theorem yk_26 : q_okY 26 := ⟨plainFor_of_name (q_okY1 26 (by decide)), q_in _ cw_26 rfl, q_in _ (q_okY3 26 (by decide)) rfl, q_okY4 26 (by decide)⟩
theorem yk_27 : q_okY 27 := ⟨plainFor_of_name (q_okY1 27 (by decide)), q_in _ cw_27 rfl, q_in _ (q_okY3 27 (by decide)) rfl, q_okY4 27 (by decide)⟩
theorem yk_28 : q_okY 28 := ⟨plainFor_of_name (q_okY1 28 (by decide)), q_in _ cw_28 rfl, q_in _ (q_okY3 28 (by decide)) rfl, q_okY4 28 (by decide)⟩
theorem yk_29 : q_okY 29 := ⟨plainFor_of_name (q_okY1 29 (by decide)), q_in _ cw_29 rfl, q_in _ (q_okY3 29 (by decide)) rfl, q_okY4 29 (by decide)⟩
theorem yk_30 : q_okY 30 := ⟨plainFor_of_name (q_okY1 30 (by decide)), q_in _ cw_30 rfl, q_in _ (q_okY3 30 (by decide)) rfl, q_okY4 30 (by decide)⟩
theorem yk_31 : q_okY 31 := ⟨plainFor_of_name (q_okY1 31 (by decide)), q_in _ cw_31 rfl, q_in _ (q_okY3 31 (by decide)) rfl, q_okY4 31 (by decide)⟩
theorem yk_32 : q_okY 32 := ⟨plainFor_of_name (q_okY1 32 (by decide)), q_in _ cw_32 rfl, q_in _ (q_okY3 32 (by decide)) rfl, q_okY4 32 (by decide)⟩
theorem yk_33 : q_okY 33 := ⟨plainFor_of_name (q_okY1 33 (by decide)), q_in _ cw_33 rfl, q_in _ (q_okY3 33 (by decide)) rfl, q_okY4 33 (by decide)⟩
theorem yk_34 : q_okY 34 := ⟨plainFor_of_name (q_okY1 34 (by decide)), q_in _ cw_34 rfl, q_in _ (q_okY3 34 (by decide)) rfl, q_okY4 34 (by decide)⟩
theorem yk_35 : q_okY 35 := ⟨plainFor_of_name (q_okY1 35 (by decide)), q_in _ cw_35 rfl, q_in _ (q_okY3 35 (by decide)) rfl, q_okY4 35 (by decide)⟩
theorem yk_36 : q_okY 36 := ⟨plainFor_of_name (q_okY1 36 (by decide)), q_in _ cw_36 rfl, q_in _ (q_okY3 36 (by decide)) rfl, q_okY4 36 (by decide)⟩
theorem yk_37 : q_okY 37 := ⟨plainFor_of_name (q_okY1 37 (by decide)), q_in _ cw_37 rfl, q_in _ (q_okY3 37 (by decide)) rfl, q_okY4 37 (by decide)⟩
theorem yk_38 : q_okY 38 := ⟨plainFor_of_name (q_okY1 38 (by decide)), q_in _ cw_38 rfl, q_in _ (q_okY3 38 (by decide)) rfl, q_okY4 38 (by decide)⟩
theorem yk_39 : q_okY 39 := ⟨plainFor_of_name (q_okY1 39 (by decide)), q_in _ cw_39 rfl, q_in _ (q_okY3 39 (by decide)) rfl, q_okY4 39 (by decide)⟩
theorem yk_40 : q_okY 40 := ⟨plainFor_of_name (q_okY1 40 (by decide)), q_in _ cw_40 rfl, q_in _ (q_okY3 40 (by decide)) rfl, q_okY4 40 (by decide)⟩
theorem yk_41 : q_okY 41 := ⟨plainFor_of_name (q_okY1 41 (by decide)), q_in _ cw_41 rfl, q_in _ (q_okY3 41 (by decide)) rfl, q_okY4 41 (by decide)⟩
theorem yk_42 : q_okY 42 := ⟨plainFor_of_name (q_okY1 42 (by decide)), q_in _ cw_42 rfl, q_in _ (q_okY3 42 (by decide)) rfl, q_okY4 42 (by decide)⟩
theorem yk_43 : q_okY 43 := ⟨plainFor_of_name (q_okY1 43 (by decide)), q_in _ cw_43 rfl, q_in _ (q_okY3 43 (by decide)) rfl, q_okY4 43 (by decide)⟩
theorem yk_44 : q_okY 44 := ⟨plainFor_of_name (q_okY1 44 (by decide)), q_in _ cw_44 rfl, q_in _ (q_okY3 44 (by decide)) rfl, q_okY4 44 (by decide)⟩
theorem yk_45 : q_okY 45 := ⟨plainFor_of_name (q_okY1 45 (by decide)), q_in _ cw_45 rfl, q_in _ (q_okY3 45 (by decide)) rfl, q_okY4 45 (by decide)⟩
theorem yk_46 : q_okY 46 := ⟨plainFor_of_name (q_okY1 46 (by decide)), q_in _ cw_46 rfl, q_in _ (q_okY3 46 (by decide)) rfl, q_okY4 46 (by decide)⟩
theorem yk_47 : q_okY 47 := ⟨plainFor_of_name (q_okY1 47 (by decide)), q_in _ cw_47 rfl, q_in _ (q_okY3 47 (by decide)) rfl, q_okY4 47 (by decide)⟩
theorem yk_48 : q_okY 48 := ⟨plainFor_of_name (q_okY1 48 (by decide)), q_in _ cw_48 rfl, q_in _ (q_okY3 48 (by decide)) rfl, q_okY4 48 (by decide)⟩
theorem yk_49 : q_okY 49 := ⟨plainFor_of_name (q_okY1 49 (by decide)), q_in _ cw_49 rfl, q_in _ (q_okY3 49 (by decide)) rfl, q_okY4 49 (by decide)⟩
theorem yk_50 : q_okY 50 := ⟨plainFor_of_name (q_okY1 50 (by decide)), q_in _ cw_50 rfl, q_in _ (q_okY3 50 (by decide)) rfl, q_okY4 50 (by decide)⟩
theorem yk_51 : q_okY 51 := ⟨plainFor_of_name (q_okY1 51 (by decide)), q_in _ cw_51 rfl, q_in _ (q_okY3 51 (by decide)) rfl, q_okY4 51 (by decide)⟩
theorem yk_52 : q_okY 52 := ⟨plainFor_of_name (q_okY1 52 (by decide)), q_in _ cw_52 rfl, q_in _ (q_okY3 52 (by decide)) rfl, q_okY4 52 (by decide)⟩
theorem yk_53 : q_okY 53 := ⟨plainFor_of_name (q_okY1 53 (by decide)), q_in _ cw_53 rfl, q_in _ (q_okY3 53 (by decide)) rfl, q_okY4 53 (by decide)⟩
theorem yk_54 : q_okY 54 := ⟨plainFor_of_name (q_okY1 54 (by decide)), q_in _ cw_54 rfl, q_in _ (q_okY3 54 (by decide)) rfl, q_okY4 54 (by decide)⟩
theorem yk_55 : q_okY 55 := ⟨plainFor_of_name (q_okY1 55 (by decide)), q_in _ cw_55 rfl, q_in _ (q_okY3 55 (by decide)) rfl, q_okY4 55 (by decide)⟩
theorem yk_56 : q_okY 56 := ⟨plainFor_of_name (q_okY1 56 (by decide)), q_in _ cw_56 rfl, q_in _ (q_okY3 56 (by decide)) rfl, q_okY4 56 (by decide)⟩
theorem yk_57 : q_okY 57 := ⟨plainFor_of_name (q_okY1 57 (by decide)), q_in _ cw_57 rfl, q_in _ (q_okY3 57 (by decide)) rfl, q_okY4 57 (by decide)⟩
theorem yk_58 : q_okY 58 := ⟨plainFor_of_name (q_okY1 58 (by decide)), q_in _ cw_58 rfl, q_in _ (q_okY3 58 (by decide)) rfl, q_okY4 58 (by decide)⟩
theorem yk_59 : q_okY 59 := ⟨plainFor_of_name (q_okY1 59 (by decide)), q_in _ cw_59 rfl, q_in _ (q_okY3 59 (by decide)) rfl, q_okY4 59 (by decide)⟩
theorem yk_60 : q_okY 60 := ⟨plainFor_of_name (q_okY1 60 (by decide)), q_in _ cw_60 rfl, q_in _ (q_okY3 60 (by decide)) rfl, q_okY4 60 (by decide)⟩
theorem yk_61 : q_okY 61 := ⟨plainFor_of_name (q_okY1 61 (by decide)), q_in _ cw_61 rfl, q_in _ (q_okY3 61 (by decide)) rfl, q_okY4 61 (by decide)⟩
theorem yk_62 : q_okY 62 := ⟨plainFor_of_name (q_okY1 62 (by decide)), q_in _ cw_62 rfl, q_in _ (q_okY3 62 (by decide)) rfl, q_okY4 62 (by decide)⟩
theorem yk_63 : q_okY 63 := ⟨plainFor_of_name (q_okY1 63 (by decide)), q_in _ cw_63 rfl, q_in _ (q_okY3 63 (by decide)) rfl, q_okY4 63 (by decide)⟩
theorem yk_64 : q_okY 64 := ⟨plainFor_of_name (q_okY1 64 (by decide)), q_in _ cw_64 rfl, q_in _ (q_okY3 64 (by decide)) rfl, q_okY4 64 (by decide)⟩
theorem yk_65 : q_okY 65 := ⟨plainFor_of_name (q_okY1 65 (by decide)), q_in _ cw_65 rfl, q_in _ (q_okY3 65 (by decide)) rfl, q_okY4 65 (by decide)⟩
theorem yk_66 : q_okY 66 := ⟨plainFor_of_name (q_okY1 66 (by decide)), q_in _ cw_66 rfl, q_in _ (q_okY3 66 (by decide)) rfl, q_okY4 66 (by decide)⟩
theorem yk_67 : q_okY 67 := ⟨plainFor_of_name (q_okY1 67 (by decide)), q_in _ cw_67 rfl, q_in _ (q_okY3 67 (by decide)) rfl, q_okY4 67 (by decide)⟩
theorem yk_68 : q_okY 68 := ⟨plainFor_of_name (q_okY1 68 (by decide)), q_in _ cw_68 rfl, q_in _ (q_okY3 68 (by decide)) rfl, q_okY4 68 (by decide)⟩
theorem yk_69 : q_okY 69 := ⟨plainFor_of_name (q_okY1 69 (by decide)), q_in _ cw_69 rfl, q_in _ (q_okY3 69 (by decide)) rfl, q_okY4 69 (by decide)⟩
theorem yk_70 : q_okY 70 := ⟨plainFor_of_name (q_okY1 70 (by decide)), q_in _ cw_70 rfl, q_in _ (q_okY3 70 (by decide)) rfl, q_okY4 70 (by decide)⟩
theorem yk_71 : q_okY 71 := ⟨plainFor_of_name (q_okY1 71 (by decide)), q_in _ cw_71 rfl, q_in _ (q_okY3 71 (by decide)) rfl, q_okY4 71 (by decide)⟩
theorem yk_72 : q_okY 72 := ⟨plainFor_of_name (q_okY1 72 (by decide)), q_in _ cw_72 rfl, q_in _ (q_okY3 72 (by decide)) rfl, q_okY4 72 (by decide)⟩
theorem yk_73 : q_okY 73 := ⟨plainFor_of_name (q_okY1 73 (by decide)), q_in _ cw_73 rfl, q_in _ (q_okY3 73 (by decide)) rfl, q_okY4 73 (by decide)⟩
theorem yk_74 : q_okY 74 := ⟨plainFor_of_name (q_okY1 74 (by decide)), q_in _ cw_74 rfl, q_in _ (q_okY3 74 (by decide)) rfl, q_okY4 74 (by decide)⟩
theorem yk_75 : q_okY 75 := ⟨plainFor_of_name (q_okY1 75 (by decide)), q_in _ cw_75 rfl, q_in _ (q_okY3 75 (by decide)) rfl, q_okY4 75 (by decide)⟩
theorem yk_76 : q_okY 76 := ⟨plainFor_of_name (q_okY1 76 (by decide)), q_in _ cw_76 rfl, q_in _ (q_okY3 76 (by decide)) rfl, q_okY4 76 (by decide)⟩
theorem yk_77 : q_okY 77 := ⟨plainFor_of_name (q_okY1 77 (by decide)), q_in _ cw_77 rfl, q_in _ (q_okY3 77 (by decide)) rfl, q_okY4 77 (by decide)⟩
theorem yk_78 : q_okY 78 := ⟨plainFor_of_name (q_okY1 78 (by decide)), q_in _ cw_78 rfl, q_in _ (q_okY3 78 (by decide)) rfl, q_okY4 78 (by decide)⟩
theorem yk_79 : q_okY 79 := ⟨plainFor_of_name (q_okY1 79 (by decide)), q_in _ cw_79 rfl, q_in _ (q_okY3 79 (by decide)) rfl, q_okY4 79 (by decide)⟩
theorem yk_80 : q_okY 80 := ⟨plainFor_of_name (q_okY1 80 (by decide)), q_in _ cw_80 rfl, q_in _ (q_okY3 80 (by decide)) rfl, q_okY4 80 (by decide)⟩
theorem yk_81 : q_okY 81 := ⟨plainFor_of_name (q_okY1 81 (by decide)), q_in _ cw_81 rfl, q_in _ (q_okY3 81 (by decide)) rfl, q_okY4 81 (by decide)⟩
theorem yk_82 : q_okY 82 := ⟨plainFor_of_name (q_okY1 82 (by decide)), q_in _ cw_82 rfl, q_in _ (q_okY3 82 (by decide)) rfl, q_okY4 82 (by decide)⟩
theorem yk_83 : q_okY 83 := ⟨plainFor_of_name (q_okY1 83 (by decide)), q_in _ cw_83 rfl, q_in _ (q_okY3 83 (by decide)) rfl, q_okY4 83 (by decide)⟩
theorem yk_84 : q_okY 84 := ⟨plainFor_of_name (q_okY1 84 (by decide)), q_in _ cw_84 rfl, q_in _ (q_okY3 84 (by decide)) rfl, q_okY4 84 (by decide)⟩
theorem yk_85 : q_okY 85 := ⟨plainFor_of_name (q_okY1 85 (by decide)), q_in _ cw_85 rfl, q_in _ (q_okY3 85 (by decide)) rfl, q_okY4 85 (by decide)⟩
theorem yk_86 : q_okY 86 := ⟨plainFor_of_name (q_okY1 86 (by decide)), q_in _ cw_86 rfl, q_in _ (q_okY3 86 (by decide)) rfl, q_okY4 86 (by decide)⟩
theorem yk_87 : q_okY 87 := ⟨plainFor_of_name (q_okY1 87 (by decide)), q_in _ cw_87 rfl, q_in _ (q_okY3 87 (by decide)) rfl, q_okY4 87 (by decide)⟩
theorem yk_88 : q_okY 88 := ⟨plainFor_of_name (q_okY1 88 (by decide)), q_in _ cw_88 rfl, q_in _ (q_okY3 88 (by decide)) rfl, q_okY4 88 (by decide)⟩
theorem yk_89 : q_okY 89 := ⟨plainFor_of_name (q_okY1 89 (by decide)), q_in _ cw_89 rfl, q_in _ (q_okY3 89 (by decide)) rfl, q_okY4 89 (by decide)⟩
theorem yk_90 : q_okY 90 := ⟨plainFor_of_name (q_okY1 90 (by decide)), q_in _ cw_90 rfl, q_in _ (q_okY3 90 (by decide)) rfl, q_okY4 90 (by decide)⟩
theorem yk_91 : q_okY 91 := ⟨plainFor_of_name (q_okY1 91 (by decide)), q_in _ cw_91 rfl, q_in _ (q_okY3 91 (by decide)) rfl, q_okY4 91 (by decide)⟩
theorem yk_92 : q_okY 92 := ⟨plainFor_of_name (q_okY1 92 (by decide)), q_in _ cw_92 rfl, q_in _ (q_okY3 92 (by decide)) rfl, q_okY4 92 (by decide)⟩
theorem yk_93 : q_okY 93 := ⟨plainFor_of_name (q_okY1 93 (by decide)), q_in _ cw_93 rfl, q_in _ (q_okY3 93 (by decide)) rfl, q_okY4 93 (by decide)⟩
theorem yk_94 : q_okY 94 := ⟨plainFor_of_name (q_okY1 94 (by decide)), q_in _ cw_94 rfl, q_in _ (q_okY3 94 (by decide)) rfl, q_okY4 94 (by decide)⟩
theorem yk_95 : q_okY 95 := ⟨plainFor_of_name (q_okY1 95 (by decide)), q_in _ cw_95 rfl, q_in _ (q_okY3 95 (by decide)) rfl, q_okY4 95 (by decide)⟩
theorem yk_96 : q_okY 96 := ⟨plainFor_of_name (q_okY1 96 (by decide)), q_in _ cw_96 rfl, q_in _ (q_okY3 96 (by decide)) rfl, q_okY4 96 (by decide)⟩
theorem yk_97 : q_okY 97 := ⟨plainFor_of_name (q_okY1 97 (by decide)), q_in _ cw_97 rfl, q_in _ (q_okY3 97 (by decide)) rfl, q_okY4 97 (by decide)⟩
theorem yk_98 : q_okY 98 := ⟨plainFor_of_name (q_okY1 98 (by decide)), q_in _ cw_98 rfl, q_in _ (q_okY3 98 (by decide)) rfl, q_okY4 98 (by decide)⟩
theorem yk_99 : q_okY 99 := ⟨plainFor_of_name (q_okY1 99 (by decide)), q_in _ cw_99 rfl, q_in _ (q_okY3 99 (by decide)) rfl, q_okY4 99 (by decide)⟩
theorem yk_100 : q_okY 100 := ⟨plainFor_of_name (q_okY1 100 (by decide)), q_in _ cw_100 rfl, q_in _ (q_okY3 100 (by decide)) rfl, q_okY4 100 (by decide)⟩
theorem yk_101 : q_okY 101 := ⟨plainFor_of_name (q_okY1 101 (by decide)), q_in _ cw_101 rfl, q_in _ (q_okY3 101 (by decide)) rfl, q_okY4 101 (by decide)⟩
theorem yk_102 : q_okY 102 := ⟨plainFor_of_name (q_okY1 102 (by decide)), q_in _ cw_102 rfl, q_in _ (q_okY3 102 (by decide)) rfl, q_okY4 102 (by decide)⟩
theorem yk_103 : q_okY 103 := ⟨plainFor_of_name (q_okY1 103 (by decide)), q_in _ cw_103 rfl, q_in _ (q_okY3 103 (by decide)) rfl, q_okY4 103 (by decide)⟩
theorem yk_104 : q_okY 104 := ⟨plainFor_of_name (q_okY1 104 (by decide)), q_in _ cw_104 rfl, q_in _ (q_okY3 104 (by decide)) rfl, q_okY4 104 (by decide)⟩
theorem yk_105 : q_okY 105 := ⟨plainFor_of_name (q_okY1 105 (by decide)), q_in _ cw_105 rfl, q_in _ (q_okY3 105 (by decide)) rfl, q_okY4 105 (by decide)⟩
theorem yk_106 : q_okY 106 := ⟨plainFor_of_name (q_okY1 106 (by decide)), q_in _ cw_106 rfl, q_in _ (q_okY3 106 (by decide)) rfl, q_okY4 106 (by decide)⟩
theorem yk_107 : q_okY 107 := ⟨plainFor_of_name (q_okY1 107 (by decide)), q_in _ cw_107 rfl, q_in _ (q_okY3 107 (by decide)) rfl, q_okY4 107 (by decide)⟩
theorem yk_108 : q_okY 108 := ⟨plainFor_of_name (q_okY1 108 (by decide)), q_in _ cw_108 rfl, q_in _ (q_okY3 108 (by decide)) rfl, q_okY4 108 (by decide)⟩
theorem yk_109 : q_okY 109 := ⟨plainFor_of_name (q_okY1 109 (by decide)), q_in _ cw_109 rfl, q_in _ (q_okY3 109 (by decide)) rfl, q_okY4 109 (by decide)⟩
theorem yk_110 : q_okY 110 := ⟨plainFor_of_name (q_okY1 110 (by decide)), q_in _ cw_110 rfl, q_in _ (q_okY3 110 (by decide)) rfl, q_okY4 110 (by decide)⟩
theorem yk_111 : q_okY 111 := ⟨plainFor_of_name (q_okY1 111 (by decide)), q_in _ cw_111 rfl, q_in _ (q_okY3 111 (by decide)) rfl, q_okY4 111 (by decide)⟩
theorem yk_112 : q_okY 112 := ⟨plainFor_of_name (q_okY1 112 (by decide)), q_in _ cw_112 rfl, q_in _ (q_okY3 112 (by decide)) rfl, q_okY4 112 (by decide)⟩
theorem yk_113 : q_okY 113 := ⟨plainFor_of_name (q_okY1 113 (by decide)), q_in _ cw_113 rfl, q_in _ (q_okY3 113 (by decide)) rfl, q_okY4 113 (by decide)⟩
theorem yk_114 : q_okY 114 := ⟨plainFor_of_name (q_okY1 114 (by decide)), q_in _ cw_114 rfl, q_in _ (q_okY3 114 (by decide)) rfl, q_okY4 114 (by decide)⟩
theorem yk_115 : q_okY 115 := ⟨plainFor_of_name (q_okY1 115 (by decide)), q_in _ cw_115 rfl, q_in _ (q_okY3 115 (by decide)) rfl, q_okY4 115 (by decide)⟩
theorem yk_116 : q_okY 116 := ⟨plainFor_of_name (q_okY1 116 (by decide)), q_in _ cw_116 rfl, q_in _ (q_okY3 116 (by decide)) rfl, q_okY4 116 (by decide)⟩
theorem yk_117 : q_okY 117 := ⟨plainFor_of_name (q_okY1 117 (by decide)), q_in _ cw_117 rfl, q_in _ (q_okY3 117 (by decide)) rfl, q_okY4 117 (by decide)⟩
theorem yk_118 : q_okY 118 := ⟨plainFor_of_name (q_okY1 118 (by decide)), q_in _ cw_118 rfl, q_in _ (q_okY3 118 (by decide)) rfl, q_okY4 118 (by decide)⟩
theorem yk_119 : q_okY 119 := ⟨plainFor_of_name (q_okY1 119 (by decide)), q_in _ cw_119 rfl, q_in _ (q_okY3 119 (by decide)) rfl, q_okY4 119 (by decide)⟩
theorem yk_120 : q_okY 120 := ⟨plainFor_of_name (q_okY1 120 (by decide)), q_in _ cw_120 rfl, q_in _ (q_okY3 120 (by decide)) rfl, q_okY4 120 (by decide)⟩
theorem yk_121 : q_okY 121 := ⟨plainFor_of_name (q_okY1 121 (by decide)), q_in _ cw_121 rfl, q_in _ (q_okY3 121 (by decide)) rfl, q_okY4 121 (by decide)⟩
theorem yk_122 : q_okY 122 := ⟨plainFor_of_name (q_okY1 122 (by decide)), q_in _ cw_122 rfl, q_in _ (q_okY3 122 (by decide)) rfl, q_okY4 122 (by decide)⟩
theorem yk_123 : q_okY 123 := ⟨plainFor_of_name (q_okY1 123 (by decide)), q_in _ cw_123 rfl, q_in _ (q_okY3 123 (by decide)) rfl, q_okY4 123 (by decide)⟩
theorem yk_124 : q_okY 124 := ⟨plainFor_of_name (q_okY1 124 (by decide)), q_in _ cw_124 rfl, q_in _ (q_okY3 124 (by decide)) rfl, q_okY4 124 (by decide)⟩
theorem yk_125 : q_okY 125 := ⟨plainFor_of_name (q_okY1 125 (by decide)), q_in _ cw_125 rfl, q_in _ (q_okY3 125 (by decide)) rfl, q_okY4 125 (by decide)⟩
theorem yk_126 : q_okY 126 := ⟨plainFor_of_name (q_okY1 126 (by decide)), q_in _ cw_126 rfl, q_in _ (q_okY3 126 (by decide)) rfl, q_okY4 126 (by decide)⟩
theorem yk_127 : q_okY 127 := ⟨plainFor_of_name (q_okY1 127 (by decide)), q_in _ cw_127 rfl, q_in _ (q_okY3 127 (by decide)) rfl, q_okY4 127 (by decide)⟩
theorem yk_128 : q_okY 128 := ⟨plainFor_of_name (q_okY1 128 (by decide)), q_in _ cw_128 rfl, q_in _ (q_okY3 128 (by decide)) rfl, q_okY4 128 (by decide)⟩
theorem yk_129 : q_okY 129 := ⟨plainFor_of_name (q_okY1 129 (by decide)), q_in _ cw_129 rfl, q_in _ (q_okY3 129 (by decide)) rfl, q_okY4 129 (by decide)⟩
theorem yk_130 : q_okY 130 := ⟨plainFor_of_name (q_okY1 130 (by decide)), q_in _ cw_130 rfl, q_in _ (q_okY3 130 (by decide)) rfl, q_okY4 130 (by decide)⟩
theorem yk_131 : q_okY 131 := ⟨plainFor_of_name (q_okY1 131 (by decide)), q_in _ cw_131 rfl, q_in _ (q_okY3 131 (by decide)) rfl, q_okY4 131 (by decide)⟩
theorem yk_132 : q_okY 132 := ⟨plainFor_of_name (q_okY1 132 (by decide)), q_in _ cw_132 rfl, q_in _ (q_okY3 132 (by decide)) rfl, q_okY4 132 (by decide)⟩
theorem yk_133 : q_okY 133 := ⟨plainFor_of_name (q_okY1 133 (by decide)), q_in _ cw_133 rfl, q_in _ (q_okY3 133 (by decide)) rfl, q_okY4 133 (by decide)⟩
theorem yk_134 : q_okY 134 := ⟨plainFor_of_name (q_okY1 134 (by decide)), q_in _ cw_134 rfl, q_in _ (q_okY3 134 (by decide)) rfl, q_okY4 134 (by decide)⟩
theorem yk_135 : q_okY 135 := ⟨plainFor_of_name (q_okY1 135 (by decide)), q_in _ cw_135 rfl, q_in _ (q_okY3 135 (by decide)) rfl, q_okY4 135 (by decide)⟩
theorem yk_136 : q_okY 136 := ⟨plainFor_of_name (q_okY1 136 (by decide)), q_in _ cw_136 rfl, q_in _ (q_okY3 136 (by decide)) rfl, q_okY4 136 (by decide)⟩
theorem yk_137 : q_okY 137 := ⟨plainFor_of_name (q_okY1 137 (by decide)), q_in _ cw_137 rfl, q_in _ (q_okY3 137 (by decide)) rfl, q_okY4 137 (by decide)⟩
theorem yk_138 : q_okY 138 := ⟨plainFor_of_name (q_okY1 138 (by decide)), q_in _ cw_138 rfl, q_in _ (q_okY3 138 (by decide)) rfl, q_okY4 138 (by decide)⟩
theorem yk_139 : q_okY 139 := ⟨plainFor_of_name (q_okY1 139 (by decide)), q_in _ cw_139 rfl, q_in _ (q_okY3 139 (by decide)) rfl, q_okY4 139 (by decide)⟩
theorem yk_140 : q_okY 140 := ⟨plainFor_of_name (q_okY1 140 (by decide)), q_in _ cw_140 rfl, q_in _ (q_okY3 140 (by decide)) rfl, q_okY4 140 (by decide)⟩
theorem yk_141 : q_okY 141 := ⟨plainFor_of_name (q_okY1 141 (by decide)), q_in _ cw_141 rfl, q_in _ (q_okY3 141 (by decide)) rfl, q_okY4 141 (by decide)⟩
theorem yk_142 : q_okY 142 := ⟨plainFor_of_name (q_okY1 142 (by decide)), q_in _ cw_142 rfl, q_in _ (q_okY3 142 (by decide)) rfl, q_okY4 142 (by decide)⟩
theorem yk_143 : q_okY 143 := ⟨plainFor_of_name (q_okY1 143 (by decide)), q_in _ cw_143 rfl, q_in _ (q_okY3 143 (by decide)) rfl, q_okY4 143 (by decide)⟩
theorem yk_144 : q_okY 144 := ⟨plainFor_of_name (q_okY1 144 (by decide)), q_in _ cw_144 rfl, q_in _ (q_okY3 144 (by decide)) rfl, q_okY4 144 (by decide)⟩
theorem yk_145 : q_okY 145 := ⟨plainFor_of_name (q_okY1 145 (by decide)), q_in _ cw_145 rfl, q_in _ (q_okY3 145 (by decide)) rfl, q_okY4 145 (by decide)⟩
theorem yk_146 : q_okY 146 := ⟨plainFor_of_name (q_okY1 146 (by decide)), q_in _ cw_146 rfl, q_in _ (q_okY3 146 (by decide)) rfl, q_okY4 146 (by decide)⟩
theorem yk_147 : q_okY 147 := ⟨plainFor_of_name (q_okY1 147 (by decide)), q_in _ cw_147 rfl, q_in _ (q_okY3 147 (by decide)) rfl, q_okY4 147 (by decide)⟩
theorem yk_148 : q_okY 148 := ⟨plainFor_of_name (q_okY1 148 (by decide)), q_in _ cw_148 rfl, q_in _ (q_okY3 148 (by decide)) rfl, q_okY4 148 (by decide)⟩
theorem yk_149 : q_okY 149 := ⟨plainFor_of_name (q_okY1 149 (by decide)), q_in _ cw_149 rfl, q_in _ (q_okY3 149 (by decide)) rfl, q_okY4 149 (by decide)⟩
theorem yk_150 : q_okY 150 := ⟨plainFor_of_name (q_okY1 150 (by decide)), q_in _ cw_150 rfl, q_in _ (q_okY3 150 (by decide)) rfl, q_okY4 150 (by decide)⟩
theorem yk_151 : q_okY 151 := ⟨plainFor_of_name (q_okY1 151 (by decide)), q_in _ cw_151 rfl, q_in _ (q_okY3 151 (by decide)) rfl, q_okY4 151 (by decide)⟩
theorem yk_152 : q_okY 152 := ⟨plainFor_of_name (q_okY1 152 (by decide)), q_in _ cw_152 rfl, q_in _ (q_okY3 152 (by decide)) rfl, q_okY4 152 (by decide)⟩
theorem yk_153 : q_okY 153 := ⟨plainFor_of_name (q_okY1 153 (by decide)), q_in _ cw_153 rfl, q_in _ (q_okY3 153 (by decide)) rfl, q_okY4 153 (by decide)⟩
theorem yk_154 : q_okY 154 := ⟨plainFor_of_name (q_okY1 154 (by decide)), q_in _ cw_154 rfl, q_in _ (q_okY3 154 (by decide)) rfl, q_okY4 154 (by decide)⟩
theorem yk_155 : q_okY 155 := ⟨plainFor_of_name (q_okY1 155 (by decide)), q_in _ cw_155 rfl, q_in _ (q_okY3 155 (by decide)) rfl, q_okY4 155 (by decide)⟩
theorem yk_156 : q_okY 156 := ⟨plainFor_of_name (q_okY1 156 (by decide)), q_in _ cw_156 rfl, q_in _ (q_okY3 156 (by decide)) rfl, q_okY4 156 (by decide)⟩
theorem yk_157 : q_okY 157 := ⟨plainFor_of_name (q_okY1 157 (by decide)), q_in _ cw_157 rfl, q_in _ (q_okY3 157 (by decide)) rfl, q_okY4 157 (by decide)⟩
theorem yk_158 : q_okY 158 := ⟨plainFor_of_name (q_okY1 158 (by decide)), q_in _ cw_158 rfl, q_in _ (q_okY3 158 (by decide)) rfl, q_okY4 158 (by decide)⟩
theorem yk_159 : q_okY 159 := ⟨plainFor_of_name (q_okY1 159 (by decide)), q_in _ cw_159 rfl, q_in _ (q_okY3 159 (by decide)) rfl, q_okY4 159 (by decide)⟩
theorem yk_160 : q_okY 160 := ⟨plainFor_of_name (q_okY1 160 (by decide)), q_in _ cw_160 rfl, q_in _ (q_okY3 160 (by decide)) rfl, q_okY4 160 (by decide)⟩
theorem yk_161 : q_okY 161 := ⟨plainFor_of_name (q_okY1 161 (by decide)), q_in _ cw_161 rfl, q_in _ (q_okY3 161 (by decide)) rfl, q_okY4 161 (by decide)⟩
theorem yk_162 : q_okY 162 := ⟨plainFor_of_name (q_okY1 162 (by decide)), q_in _ cw_162 rfl, q_in _ (q_okY3 162 (by decide)) rfl, q_okY4 162 (by decide)⟩
theorem yk_163 : q_okY 163 := ⟨plainFor_of_name (q_okY1 163 (by decide)), q_in _ cw_163 rfl, q_in _ (q_okY3 163 (by decide)) rfl, q_okY4 163 (by decide)⟩
theorem yk_164 : q_okY 164 := ⟨plainFor_of_name (q_okY1 164 (by decide)), q_in _ cw_164 rfl, q_in _ (q_okY3 164 (by decide)) rfl, q_okY4 164 (by decide)⟩
theorem yk_165 : q_okY 165 := ⟨plainFor_of_name (q_okY1 165 (by decide)), q_in _ cw_165 rfl, q_in _ (q_okY3 165 (by decide)) rfl, q_okY4 165 (by decide)⟩
theorem yk_166 : q_okY 166 := ⟨plainFor_of_name (q_okY1 166 (by decide)), q_in _ cw_166 rfl, q_in _ (q_okY3 166 (by decide)) rfl, q_okY4 166 (by decide)⟩
theorem yk_167 : q_okY 167 := ⟨plainFor_of_name (q_okY1 167 (by decide)), q_in _ cw_167 rfl, q_in _ (q_okY3 167 (by decide)) rfl, q_okY4 167 (by decide)⟩
theorem yk_168 : q_okY 168 := ⟨plainFor_of_name (q_okY1 168 (by decide)), q_in _ cw_168 rfl, q_in _ (q_okY3 168 (by decide)) rfl, q_okY4 168 (by decide)⟩
theorem yk_169 : q_okY 169 := ⟨plainFor_of_name (q_okY1 169 (by decide)), q_in _ cw_169 rfl, q_in _ (q_okY3 169 (by decide)) rfl, q_okY4 169 (by decide)⟩
theorem yk_170 : q_okY 170 := ⟨plainFor_of_name (q_okY1 170 (by decide)), q_in _ cw_170 rfl, q_in _ (q_okY3 170 (by decide)) rfl, q_okY4 170 (by decide)⟩
theorem yk_171 : q_okY 171 := ⟨plainFor_of_name (q_okY1 171 (by decide)), q_in _ cw_171 rfl, q_in _ (q_okY3 171 (by decide)) rfl, q_okY4 171 (by decide)⟩
theorem yk_172 : q_okY 172 := ⟨plainFor_of_name (q_okY1 172 (by decide)), q_in _ cw_172 rfl, q_in _ (q_okY3 172 (by decide)) rfl, q_okY4 172 (by decide)⟩
theorem yk_173 : q_okY 173 := ⟨plainFor_of_name (q_okY1 173 (by decide)), q_in _ cw_173 rfl, q_in _ (q_okY3 173 (by decide)) rfl, q_okY4 173 (by decide)⟩
theorem yk_174 : q_okY 174 := ⟨plainFor_of_name (q_okY1 174 (by decide)), q_in _ cw_174 rfl, q_in _ (q_okY3 174 (by decide)) rfl, q_okY4 174 (by decide)⟩
theorem yk_175 : q_okY 175 := ⟨plainFor_of_name (q_okY1 175 (by decide)), q_in _ cw_175 rfl, q_in _ (q_okY3 175 (by decide)) rfl, q_okY4 175 (by decide)⟩
theorem yk_176 : q_okY 176 := ⟨plainFor_of_name (q_okY1 176 (by decide)), q_in _ cw_176 rfl, q_in _ (q_okY3 176 (by decide)) rfl, q_okY4 176 (by decide)⟩
theorem yk_177 : q_okY 177 := ⟨plainFor_of_name (q_okY1 177 (by decide)), q_in _ cw_177 rfl, q_in _ (q_okY3 177 (by decide)) rfl, q_okY4 177 (by decide)⟩
theorem yk_178 : q_okY 178 := ⟨plainFor_of_name (q_okY1 178 (by decide)), q_in _ cw_178 rfl, q_in _ (q_okY3 178 (by decide)) rfl, q_okY4 178 (by decide)⟩
theorem yk_179 : q_okY 179 := ⟨plainFor_of_name (q_okY1 179 (by decide)), q_in _ cw_179 rfl, q_in _ (q_okY3 179 (by decide)) rfl, q_okY4 179 (by decide)⟩
theorem yk_180 : q_okY 180 := ⟨plainFor_of_name (q_okY1 180 (by decide)), q_in _ cw_180 rfl, q_in _ (q_okY3 180 (by decide)) rfl, q_okY4 180 (by decide)⟩
theorem yk_181 : q_okY 181 := ⟨plainFor_of_name (q_okY1 181 (by decide)), q_in _ cw_181 rfl, q_in _ (q_okY3 181 (by decide)) rfl, q_okY4 181 (by decide)⟩
theorem yk_182 : q_okY 182 := ⟨plainFor_of_name (q_okY1 182 (by decide)), q_in _ cw_182 rfl, q_in _ (q_okY3 182 (by decide)) rfl, q_okY4 182 (by decide)⟩
theorem yk_183 : q_okY 183 := ⟨plainFor_of_name (q_okY1 183 (by decide)), q_in _ cw_183 rfl, q_in _ (q_okY3 183 (by decide)) rfl, q_okY4 183 (by decide)⟩
theorem yk_184 : q_okY 184 := ⟨plainFor_of_name (q_okY1 184 (by decide)), q_in _ cw_184 rfl, q_in _ (q_okY3 184 (by decide)) rfl, q_okY4 184 (by decide)⟩
theorem yk_185 : q_okY 185 := ⟨plainFor_of_name (q_okY1 185 (by decide)), q_in _ cw_185 rfl, q_in _ (q_okY3 185 (by decide)) rfl, q_okY4 185 (by decide)⟩
theorem yk_186 : q_okY 186 := ⟨plainFor_of_name (q_okY1 186 (by decide)), q_in _ cw_186 rfl, q_in _ (q_okY3 186 (by decide)) rfl, q_okY4 186 (by decide)⟩
theorem yk_187 : q_okY 187 := ⟨plainFor_of_name (q_okY1 187 (by decide)), q_in _ cw_187 rfl, q_in _ (q_okY3 187 (by decide)) rfl, q_okY4 187 (by decide)⟩
theorem yk_188 : q_okY 188 := ⟨plainFor_of_name (q_okY1 188 (by decide)), q_in _ cw_188 rfl, q_in _ (q_okY3 188 (by decide)) rfl, q_okY4 188 (by decide)⟩
theorem yk_189 : q_okY 189 := ⟨plainFor_of_name (q_okY1 189 (by decide)), q_in _ cw_189 rfl, q_in _ (q_okY3 189 (by decide)) rfl, q_okY4 189 (by decide)⟩
theorem yk_190 : q_okY 190 := ⟨plainFor_of_name (q_okY1 190 (by decide)), q_in _ cw_190 rfl, q_in _ (q_okY3 190 (by decide)) rfl, q_okY4 190 (by decide)⟩
theorem yk_191 : q_okY 191 := ⟨plainFor_of_name (q_okY1 191 (by decide)), q_in _ cw_191 rfl, q_in _ (q_okY3 191 (by decide)) rfl, q_okY4 191 (by decide)⟩
theorem yk_192 : q_okY 192 := ⟨plainFor_of_name (q_okY1 192 (by decide)), q_in _ cw_192 rfl, q_in _ (q_okY3 192 (by decide)) rfl, q_okY4 192 (by decide)⟩
theorem yk_193 : q_okY 193 := ⟨plainFor_of_name (q_okY1 193 (by decide)), q_in _ cw_193 rfl, q_in _ (q_okY3 193 (by decide)) rfl, q_okY4 193 (by decide)⟩
theorem yk_194 : q_okY 194 := ⟨plainFor_of_name (q_okY1 194 (by decide)), q_in _ cw_194 rfl, q_in _ (q_okY3 194 (by decide)) rfl, q_okY4 194 (by decide)⟩
theorem yk_195 : q_okY 195 := ⟨plainFor_of_name (q_okY1 195 (by decide)), q_in _ cw_195 rfl, q_in _ (q_okY3 195 (by decide)) rfl, q_okY4 195 (by decide)⟩
theorem yk_196 : q_okY 196 := ⟨plainFor_of_name (q_okY1 196 (by decide)), q_in _ cw_196 rfl, q_in _ (q_okY3 196 (by decide)) rfl, q_okY4 196 (by decide)⟩
theorem yk_197 : q_okY 197 := ⟨plainFor_of_name (q_okY1 197 (by decide)), q_in _ cw_197 rfl, q_in _ (q_okY3 197 (by decide)) rfl, q_okY4 197 (by decide)⟩
theorem yk_198 : q_okY 198 := ⟨plainFor_of_name (q_okY1 198 (by decide)), q_in _ cw_198 rfl, q_in _ (q_okY3 198 (by decide)) rfl, q_okY4 198 (by decide)⟩
theorem yk_199 : q_okY 199 := ⟨plainFor_of_name (q_okY1 199 (by decide)), q_in _ cw_199 rfl, q_in _ (q_okY3 199 (by decide)) rfl, q_okY4 199 (by decide)⟩
theorem yk_200 : q_okY 200 := ⟨plainFor_of_name (q_okY1 200 (by decide)), q_in _ cw_200 rfl, q_in _ (q_okY3 200 (by decide)) rfl, q_okY4 200 (by decide)⟩
theorem yk_201 : q_okY 201 := ⟨plainFor_of_name (q_okY1 201 (by decide)), q_in _ cw_201 rfl, q_in _ (q_okY3 201 (by decide)) rfl, q_okY4 201 (by decide)⟩
theorem yk_202 : q_okY 202 := ⟨plainFor_of_name (q_okY1 202 (by decide)), q_in _ cw_202 rfl, q_in _ (q_okY3 202 (by decide)) rfl, q_okY4 202 (by decide)⟩
theorem yk_203 : q_okY 203 := ⟨plainFor_of_name (q_okY1 203 (by decide)), q_in _ cw_203 rfl, q_in _ (q_okY3 203 (by decide)) rfl, q_okY4 203 (by decide)⟩
theorem yk_204 : q_okY 204 := ⟨plainFor_of_name (q_okY1 204 (by decide)), q_in _ cw_204 rfl, q_in _ (q_okY3 204 (by decide)) rfl, q_okY4 204 (by decide)⟩
theorem yk_205 : q_okY 205 := ⟨plainFor_of_name (q_okY1 205 (by decide)), q_in _ cw_205 rfl, q_in _ (q_okY3 205 (by decide)) rfl, q_okY4 205 (by decide)⟩
theorem yk_206 : q_okY 206 := ⟨plainFor_of_name (q_okY1 206 (by decide)), q_in _ cw_206 rfl, q_in _ (q_okY3 206 (by decide)) rfl, q_okY4 206 (by decide)⟩
theorem yk_207 : q_okY 207 := ⟨plainFor_of_name (q_okY1 207 (by decide)), q_in _ cw_207 rfl, q_in _ (q_okY3 207 (by decide)) rfl, q_okY4 207 (by decide)⟩
theorem yk_208 : q_okY 208 := ⟨q_plainM (by decide +kernel) (by decide +kernel), q_in _ cw_208 rfl, q_in _ (q_okY3 208 (by decide)) rfl, q_okY4 208 (by decide)⟩
theorem yk_209 : q_okY 209 := ⟨q_plainM (by decide +kernel) (by decide +kernel), q_in _ cw_209 rfl, q_in _ (q_okY3 209 (by decide)) rfl, q_okY4 209 (by decide)⟩
theorem yk_210 : q_okY 210 := ⟨q_plainM (by decide +kernel) (by decide +kernel), q_in _ cw_210 rfl, q_in _ (q_okY3 210 (by decide)) rfl, q_okY4 210 (by decide)⟩
theorem q_okY_all : ∀ (y : Nat), y < 211 → q_okY y
  | 0, _ => yk_0
  | 1, _ => yk_1
  | 2, _ => yk_2
  | 3, _ => yk_3
  | 4, _ => yk_4
  | 5, _ => yk_5
  | 6, _ => yk_6
  | 7, _ => yk_7
  | 8, _ => yk_8
  | 9, _ => yk_9
  | 10, _ => yk_10
  | 11, _ => yk_11
  | 12, _ => yk_12
  | 13, _ => yk_13
  | 14, _ => yk_14
  | 15, _ => yk_15
  | 16, _ => yk_16
  | 17, _ => yk_17
  | 18, _ => yk_18
  | 19, _ => yk_19
  | 20, _ => yk_20
  | 21, _ => yk_21
  | 22, _ => yk_22
  | 23, _ => yk_23
  | 24, _ => yk_24
  | 25, _ => yk_25
  | 26, _ => yk_26
  | 27, _ => yk_27
  | 28, _ => yk_28
  | 29, _ => yk_29
  | 30, _ => yk_30
  | 31, _ => yk_31
  | 32, _ => yk_32
  | 33, _ => yk_33
  | 34, _ => yk_34
  | 35, _ => yk_35
  | 36, _ => yk_36
  | 37, _ => yk_37
  | 38, _ => yk_38
  | 39, _ => yk_39
  | 40, _ => yk_40
  | 41, _ => yk_41
  | 42, _ => yk_42
  | 43, _ => yk_43
  | 44, _ => yk_44
  | 45, _ => yk_45
  | 46, _ => yk_46
  | 47, _ => yk_47
  | 48, _ => yk_48
  | 49, _ => yk_49
  | 50, _ => yk_50
  | 51, _ => yk_51
  | 52, _ => yk_52
  | 53, _ => yk_53
  | 54, _ => yk_54
  | 55, _ => yk_55
  | 56, _ => yk_56
  | 57, _ => yk_57
  | 58, _ => yk_58
  | 59, _ => yk_59
  | 60, _ => yk_60
  | 61, _ => yk_61
  | 62, _ => yk_62
  | 63, _ => yk_63
  | 64, _ => yk_64
  | 65, _ => yk_65
  | 66, _ => yk_66
  | 67, _ => yk_67
  | 68, _ => yk_68
  | 69, _ => yk_69
  | 70, _ => yk_70
  | 71, _ => yk_71
  | 72, _ => yk_72
  | 73, _ => yk_73
  | 74, _ => yk_74
  | 75, _ => yk_75
  | 76, _ => yk_76
  | 77, _ => yk_77
  | 78, _ => yk_78
  | 79, _ => yk_79
  | 80, _ => yk_80
  | 81, _ => yk_81
  | 82, _ => yk_82
  | 83, _ => yk_83
  | 84, _ => yk_84
  | 85, _ => yk_85
  | 86, _ => yk_86
  | 87, _ => yk_87
  | 88, _ => yk_88
  | 89, _ => yk_89
  | 90, _ => yk_90
  | 91, _ => yk_91
  | 92, _ => yk_92
  | 93, _ => yk_93
  | 94, _ => yk_94
  | 95, _ => yk_95
  | 96, _ => yk_96
  | 97, _ => yk_97
  | 98, _ => yk_98
  | 99, _ => yk_99
  | 100, _ => yk_100
  | 101, _ => yk_101
  | 102, _ => yk_102
  | 103, _ => yk_103
  | 104, _ => yk_104
  | 105, _ => yk_105
  | 106, _ => yk_106
  | 107, _ => yk_107
  | 108, _ => yk_108
  | 109, _ => yk_109
  | 110, _ => yk_110
  | 111, _ => yk_111
  | 112, _ => yk_112
  | 113, _ => yk_113
  | 114, _ => yk_114
  | 115, _ => yk_115
  | 116, _ => yk_116
  | 117, _ => yk_117
  | 118, _ => yk_118
  | 119, _ => yk_119
  | 120, _ => yk_120
  | 121, _ => yk_121
  | 122, _ => yk_122
  | 123, _ => yk_123
  | 124, _ => yk_124
  | 125, _ => yk_125
  | 126, _ => yk_126
  | 127, _ => yk_127
  | 128, _ => yk_128
  | 129, _ => yk_129
  | 130, _ => yk_130
  | 131, _ => yk_131
  | 132, _ => yk_132
  | 133, _ => yk_133
  | 134, _ => yk_134
  | 135, _ => yk_135
  | 136, _ => yk_136
  | 137, _ => yk_137
  | 138, _ => yk_138
  | 139, _ => yk_139
  | 140, _ => yk_140
  | 141, _ => yk_141
  | 142, _ => yk_142
  | 143, _ => yk_143
  | 144, _ => yk_144
  | 145, _ => yk_145
  | 146, _ => yk_146
  | 147, _ => yk_147
  | 148, _ => yk_148
  | 149, _ => yk_149
  | 150, _ => yk_150
  | 151, _ => yk_151
  | 152, _ => yk_152
  | 153, _ => yk_153
  | 154, _ => yk_154
  | 155, _ => yk_155
  | 156, _ => yk_156
  | 157, _ => yk_157
  | 158, _ => yk_158
  | 159, _ => yk_159
  | 160, _ => yk_160
  | 161, _ => yk_161
  | 162, _ => yk_162
  | 163, _ => yk_163
  | 164, _ => yk_164
  | 165, _ => yk_165
  | 166, _ => yk_166
  | 167, _ => yk_167
  | 168, _ => yk_168
  | 169, _ => yk_169
  | 170, _ => yk_170
  | 171, _ => yk_171
  | 172, _ => yk_172
  | 173, _ => yk_173
  | 174, _ => yk_174
  | 175, _ => yk_175
  | 176, _ => yk_176
  | 177, _ => yk_177
  | 178, _ => yk_178
  | 179, _ => yk_179
  | 180, _ => yk_180
  | 181, _ => yk_181
  | 182, _ => yk_182
  | 183, _ => yk_183
  | 184, _ => yk_184
  | 185, _ => yk_185
  | 186, _ => yk_186
  | 187, _ => yk_187
  | 188, _ => yk_188
  | 189, _ => yk_189
  | 190, _ => yk_190
  | 191, _ => yk_191
  | 192, _ => yk_192
  | 193, _ => yk_193
  | 194, _ => yk_194
  | 195, _ => yk_195
  | 196, _ => yk_196
  | 197, _ => yk_197
  | 198, _ => yk_198
  | 199, _ => yk_199
  | 200, _ => yk_200
  | 201, _ => yk_201
  | 202, _ => yk_202
  | 203, _ => yk_203
  | 204, _ => yk_204
  | 205, _ => yk_205
  | 206, _ => yk_206
  | 207, _ => yk_207
  | 208, _ => yk_208
  | 209, _ => yk_209
  | 210, _ => yk_210
  | n + 211, h => absurd h (by omega)
theorem q_sub_c (D : Nat) {c : Nat} (l : List Nat) (h : (List.range 13).all (fun c => !q_sub c D || q_memb c l) = true) (hs : q_sub c D = true) : q_memb c l = true := by
  have hc : c < 13 := by
    rcases Nat.lt_or_ge c 13 with q | q
    · exact q
    · unfold q_sub at hs
      rw [List.getElem?_eq_none (by simp [q_subT]; omega)] at hs
      simp [q_memb] at hs
  have := List.all_eq_true.mp h c (List.mem_range.mpr hc)
  rw [hs] at this
  simpa using this
theorem q_memb_or {c a : Nat} {l : List Nat} (h : q_memb c (a :: l) = true) : c = a ∨ q_memb c l = true := by
  unfold q_memb at h
  cases hb : Nat.beq a c with
  | true => exact Or.inl (Nat.eq_of_beq_eq_true hb).symm
  | false =>
    rw [hb] at h
    exact Or.inr h
theorem rLF_0_9_0_0_1 : q_fok (q_cs 0) 9 0 0 1 := by
  intro c hc
  have hm := q_sub_c 0 [0] (by decide +kernel) hc
  rcases q_memb_or hm with rfl | hm
  · exact ⟨RX0, TX0, rfl, (by decide +kernel), ⟨"WhirlShafts$Changes", (by decide +kernel), q_in 207 (by decide +kernel) (by decide +kernel)⟩, (by decide +kernel)⟩
  · cases hm
theorem rLF_0_15_0_1_1 : q_fok (q_cs 0) 15 0 1 1 := by
  intro c hc
  have hm := q_sub_c 0 [0] (by decide +kernel) hc
  rcases q_memb_or hm with rfl | hm
  · exact ⟨RX0, TX0, rfl, (by decide +kernel), ⟨"WhirlShafts$Changes", (by decide +kernel), q_in 208 (by decide +kernel) (by decide +kernel)⟩, (by decide +kernel)⟩
  · cases hm
theorem rLF_0_18_0_2_1 : q_fok (q_cs 0) 18 0 2 1 := by
  intro c hc
  have hm := q_sub_c 0 [0] (by decide +kernel) hc
  rcases q_memb_or hm with rfl | hm
  · exact ⟨RX0, TX0, rfl, (by decide +kernel), ⟨"WhirlShafts$Changes", (by decide +kernel), q_in 209 (by decide +kernel) (by decide +kernel)⟩, (by decide +kernel)⟩
  · cases hm
theorem rLF_0_21_0_3_1 : q_fok (q_cs 0) 21 0 3 1 := by
  intro c hc
  have hm := q_sub_c 0 [0] (by decide +kernel) hc
  rcases q_memb_or hm with rfl | hm
  · exact ⟨RX0, TX0, rfl, (by decide +kernel), ⟨"WhirlShafts$Changes", (by decide +kernel), q_in 210 (by decide +kernel) (by decide +kernel)⟩, (by decide +kernel)⟩
  · cases hm
theorem rLF_0_24_0_4_0 : q_fok (q_cs 0) 24 0 4 0 := by
  intro c hc
  have hm := q_sub_c 0 [0] (by decide +kernel) hc
  rcases q_memb_or hm with rfl | hm
  · exact ⟨RX0, TX0, rfl, (by decide +kernel), ⟨"WhirlShafts$Changes", (by decide +kernel), q_in 211 (by decide +kernel) (by decide +kernel)⟩, (by decide +kernel)⟩
  · cases hm
theorem rLF_0_28_0_5_0 : q_fok (q_cs 0) 28 0 5 0 := by
  intro c hc
  have hm := q_sub_c 0 [0] (by decide +kernel) hc
  rcases q_memb_or hm with rfl | hm
  · exact ⟨RX0, TX0, rfl, (by decide +kernel), ⟨"WhirlShafts$Changes", (by decide +kernel), q_in 213 (by decide +kernel) (by decide +kernel)⟩, (by decide +kernel)⟩
  · cases hm
theorem rLF_2_9_2_0_1 : q_fok (q_cs 2) 9 2 0 1 := by
  intro c hc
  have hm := q_sub_c 2 [1, 2, 3, 7, 9] (by decide +kernel) hc
  rcases q_memb_or hm with rfl | hm
  · exact ⟨RX1, TX1, rfl, (by decide +kernel), ⟨"WhirlShafts$Disc", (by decide +kernel), q_in 77 (by decide +kernel) (by decide +kernel)⟩, (by decide +kernel)⟩
  rcases q_memb_or hm with rfl | hm
  · exact ⟨RX2, TX2, rfl, (by decide +kernel), ⟨"WhirlShafts$Disc", (by decide +kernel), q_in 77 (by decide +kernel) (by decide +kernel)⟩, (by decide +kernel)⟩
  rcases q_memb_or hm with rfl | hm
  · exact ⟨RX3, TX3, rfl, (by decide +kernel), ⟨"WhirlShafts$Disc", (by decide +kernel), q_in 77 (by decide +kernel) (by decide +kernel)⟩, (by decide +kernel)⟩
  rcases q_memb_or hm with rfl | hm
  · exact ⟨RX7, TX7, rfl, (by decide +kernel), ⟨"WhirlShafts$Disc", (by decide +kernel), q_in 77 (by decide +kernel) (by decide +kernel)⟩, (by decide +kernel)⟩
  rcases q_memb_or hm with rfl | hm
  · exact ⟨RX9, TX9, rfl, (by decide +kernel), ⟨"WhirlShafts$Disc", (by decide +kernel), q_in 77 (by decide +kernel) (by decide +kernel)⟩, (by decide +kernel)⟩
  · cases hm
theorem rLF_2_15_2_1_0 : q_fok (q_cs 2) 15 2 1 0 := by
  intro c hc
  have hm := q_sub_c 2 [1, 2, 3, 7, 9] (by decide +kernel) hc
  rcases q_memb_or hm with rfl | hm
  · exact ⟨RX1, TX1, rfl, (by decide +kernel), ⟨"WhirlShafts$Disc", (by decide +kernel), q_in 79 (by decide +kernel) (by decide +kernel)⟩, (by decide +kernel)⟩
  rcases q_memb_or hm with rfl | hm
  · exact ⟨RX2, TX2, rfl, (by decide +kernel), ⟨"WhirlShafts$Disc", (by decide +kernel), q_in 79 (by decide +kernel) (by decide +kernel)⟩, (by decide +kernel)⟩
  rcases q_memb_or hm with rfl | hm
  · exact ⟨RX3, TX3, rfl, (by decide +kernel), ⟨"WhirlShafts$Disc", (by decide +kernel), q_in 79 (by decide +kernel) (by decide +kernel)⟩, (by decide +kernel)⟩
  rcases q_memb_or hm with rfl | hm
  · exact ⟨RX7, TX7, rfl, (by decide +kernel), ⟨"WhirlShafts$Disc", (by decide +kernel), q_in 79 (by decide +kernel) (by decide +kernel)⟩, (by decide +kernel)⟩
  rcases q_memb_or hm with rfl | hm
  · exact ⟨RX9, TX9, rfl, (by decide +kernel), ⟨"WhirlShafts$Disc", (by decide +kernel), q_in 79 (by decide +kernel) (by decide +kernel)⟩, (by decide +kernel)⟩
  · cases hm
theorem rLF_2_19_2_2_0 : q_fok (q_cs 2) 19 2 2 0 := by
  intro c hc
  have hm := q_sub_c 2 [1, 2, 3, 7, 9] (by decide +kernel) hc
  rcases q_memb_or hm with rfl | hm
  · exact ⟨RX1, TX1, rfl, (by decide +kernel), ⟨"WhirlShafts$Disc", (by decide +kernel), q_in 81 (by decide +kernel) (by decide +kernel)⟩, (by decide +kernel)⟩
  rcases q_memb_or hm with rfl | hm
  · exact ⟨RX2, TX2, rfl, (by decide +kernel), ⟨"WhirlShafts$Disc", (by decide +kernel), q_in 81 (by decide +kernel) (by decide +kernel)⟩, (by decide +kernel)⟩
  rcases q_memb_or hm with rfl | hm
  · exact ⟨RX3, TX3, rfl, (by decide +kernel), ⟨"WhirlShafts$Disc", (by decide +kernel), q_in 81 (by decide +kernel) (by decide +kernel)⟩, (by decide +kernel)⟩
  rcases q_memb_or hm with rfl | hm
  · exact ⟨RX7, TX7, rfl, (by decide +kernel), ⟨"WhirlShafts$Disc", (by decide +kernel), q_in 81 (by decide +kernel) (by decide +kernel)⟩, (by decide +kernel)⟩
  rcases q_memb_or hm with rfl | hm
  · exact ⟨RX9, TX9, rfl, (by decide +kernel), ⟨"WhirlShafts$Disc", (by decide +kernel), q_in 81 (by decide +kernel) (by decide +kernel)⟩, (by decide +kernel)⟩
  · cases hm
theorem rLF_2_22_2_3_0 : q_fok (q_cs 2) 22 2 3 0 := by
  intro c hc
  have hm := q_sub_c 2 [1, 2, 3, 7, 9] (by decide +kernel) hc
  rcases q_memb_or hm with rfl | hm
  · exact ⟨RX1, TX1, rfl, (by decide +kernel), ⟨"WhirlShafts$Disc", (by decide +kernel), q_in 82 (by decide +kernel) (by decide +kernel)⟩, (by decide +kernel)⟩
  rcases q_memb_or hm with rfl | hm
  · exact ⟨RX2, TX2, rfl, (by decide +kernel), ⟨"WhirlShafts$Disc", (by decide +kernel), q_in 82 (by decide +kernel) (by decide +kernel)⟩, (by decide +kernel)⟩
  rcases q_memb_or hm with rfl | hm
  · exact ⟨RX3, TX3, rfl, (by decide +kernel), ⟨"WhirlShafts$Disc", (by decide +kernel), q_in 82 (by decide +kernel) (by decide +kernel)⟩, (by decide +kernel)⟩
  rcases q_memb_or hm with rfl | hm
  · exact ⟨RX7, TX7, rfl, (by decide +kernel), ⟨"WhirlShafts$Disc", (by decide +kernel), q_in 82 (by decide +kernel) (by decide +kernel)⟩, (by decide +kernel)⟩
  rcases q_memb_or hm with rfl | hm
  · exact ⟨RX9, TX9, rfl, (by decide +kernel), ⟨"WhirlShafts$Disc", (by decide +kernel), q_in 82 (by decide +kernel) (by decide +kernel)⟩, (by decide +kernel)⟩
  · cases hm
theorem rLF_4_9_4_1_1 : q_fok (q_cs 4) 9 4 1 1 := by
  intro c hc
  have hm := q_sub_c 4 [4] (by decide +kernel) hc
  rcases q_memb_or hm with rfl | hm
  · exact ⟨RX4, TX4, rfl, (by decide +kernel), ⟨"WhirlShafts$Line", (by decide +kernel), q_in 144 (by decide +kernel) (by decide +kernel)⟩, (by decide +kernel)⟩
  · cases hm
theorem rLF_4_15_4_2_1 : q_fok (q_cs 4) 15 4 2 1 := by
  intro c hc
  have hm := q_sub_c 4 [4] (by decide +kernel) hc
  rcases q_memb_or hm with rfl | hm
  · exact ⟨RX4, TX4, rfl, (by decide +kernel), ⟨"WhirlShafts$Line", (by decide +kernel), q_in 146 (by decide +kernel) (by decide +kernel)⟩, (by decide +kernel)⟩
  · cases hm
theorem rLF_4_18_4_3_1 : q_fok (q_cs 4) 18 4 3 1 := by
  intro c hc
  have hm := q_sub_c 4 [4] (by decide +kernel) hc
  rcases q_memb_or hm with rfl | hm
  · exact ⟨RX4, TX4, rfl, (by decide +kernel), ⟨"WhirlShafts$Line", (by decide +kernel), q_in 148 (by decide +kernel) (by decide +kernel)⟩, (by decide +kernel)⟩
  · cases hm
theorem rLF_4_21_4_4_1 : q_fok (q_cs 4) 21 4 4 1 := by
  intro c hc
  have hm := q_sub_c 4 [4] (by decide +kernel) hc
  rcases q_memb_or hm with rfl | hm
  · exact ⟨RX4, TX4, rfl, (by decide +kernel), ⟨"WhirlShafts$Line", (by decide +kernel), q_in 149 (by decide +kernel) (by decide +kernel)⟩, (by decide +kernel)⟩
  · cases hm
theorem rLF_4_24_4_5_1 : q_fok (q_cs 4) 24 4 5 1 := by
  intro c hc
  have hm := q_sub_c 4 [4] (by decide +kernel) hc
  rcases q_memb_or hm with rfl | hm
  · exact ⟨RX4, TX4, rfl, (by decide +kernel), ⟨"WhirlShafts$Line", (by decide +kernel), q_in 151 (by decide +kernel) (by decide +kernel)⟩, (by decide +kernel)⟩
  · cases hm
theorem rLF_4_27_4_0_1 : q_fok (q_cs 4) 27 4 0 1 := by
  intro c hc
  have hm := q_sub_c 4 [4] (by decide +kernel) hc
  rcases q_memb_or hm with rfl | hm
  · exact ⟨RX4, TX4, rfl, (by decide +kernel), ⟨"WhirlShafts$Line", (by decide +kernel), q_in 143 (by decide +kernel) (by decide +kernel)⟩, (by decide +kernel)⟩
  · cases hm
theorem rLF_4_31_4_6_0 : q_fok (q_cs 4) 31 4 6 0 := by
  intro c hc
  have hm := q_sub_c 4 [4] (by decide +kernel) hc
  rcases q_memb_or hm with rfl | hm
  · exact ⟨RX4, TX4, rfl, (by decide +kernel), ⟨"WhirlShafts$Line", (by decide +kernel), q_in 153 (by decide +kernel) (by decide +kernel)⟩, (by decide +kernel)⟩
  · cases hm
theorem rLF_4_35_4_7_0 : q_fok (q_cs 4) 35 4 7 0 := by
  intro c hc
  have hm := q_sub_c 4 [4] (by decide +kernel) hc
  rcases q_memb_or hm with rfl | hm
  · exact ⟨RX4, TX4, rfl, (by decide +kernel), ⟨"WhirlShafts$Line", (by decide +kernel), q_in 155 (by decide +kernel) (by decide +kernel)⟩, (by decide +kernel)⟩
  · cases hm
theorem rLF_4_38_4_8_0 : q_fok (q_cs 4) 38 4 8 0 := by
  intro c hc
  have hm := q_sub_c 4 [4] (by decide +kernel) hc
  rcases q_memb_or hm with rfl | hm
  · exact ⟨RX4, TX4, rfl, (by decide +kernel), ⟨"WhirlShafts$Line", (by decide +kernel), q_in 157 (by decide +kernel) (by decide +kernel)⟩, (by decide +kernel)⟩
  · cases hm
theorem rLF_5_9_5_0_1 : q_fok (q_cs 5) 9 5 0 1 := by
  intro c hc
  have hm := q_sub_c 5 [5] (by decide +kernel) hc
  rcases q_memb_or hm with rfl | hm
  · exact ⟨RX5, TX5, rfl, (by decide +kernel), ⟨"WhirlShafts$Orders", (by decide +kernel), q_in 184 (by decide +kernel) (by decide +kernel)⟩, (by decide +kernel)⟩
  · cases hm
theorem rLF_5_15_5_1_1 : q_fok (q_cs 5) 15 5 1 1 := by
  intro c hc
  have hm := q_sub_c 5 [5] (by decide +kernel) hc
  rcases q_memb_or hm with rfl | hm
  · exact ⟨RX5, TX5, rfl, (by decide +kernel), ⟨"WhirlShafts$Orders", (by decide +kernel), q_in 186 (by decide +kernel) (by decide +kernel)⟩, (by decide +kernel)⟩
  · cases hm
theorem rLF_5_18_5_2_1 : q_fok (q_cs 5) 18 5 2 1 := by
  intro c hc
  have hm := q_sub_c 5 [5] (by decide +kernel) hc
  rcases q_memb_or hm with rfl | hm
  · exact ⟨RX5, TX5, rfl, (by decide +kernel), ⟨"WhirlShafts$Orders", (by decide +kernel), q_in 188 (by decide +kernel) (by decide +kernel)⟩, (by decide +kernel)⟩
  · cases hm
theorem rLF_5_21_5_3_0 : q_fok (q_cs 5) 21 5 3 0 := by
  intro c hc
  have hm := q_sub_c 5 [5] (by decide +kernel) hc
  rcases q_memb_or hm with rfl | hm
  · exact ⟨RX5, TX5, rfl, (by decide +kernel), ⟨"WhirlShafts$Orders", (by decide +kernel), q_in 190 (by decide +kernel) (by decide +kernel)⟩, (by decide +kernel)⟩
  · cases hm
theorem rLF_6_11_6_1_1 : q_fok (q_cs 6) 11 6 1 1 := by
  intro c hc
  have hm := q_sub_c 6 [6] (by decide +kernel) hc
  rcases q_memb_or hm with rfl | hm
  · exact ⟨RX6, TX6, rfl, (by decide +kernel), ⟨"WhirlShafts$Rates", (by decide +kernel), q_in 237 (by decide +kernel) (by decide +kernel)⟩, (by decide +kernel)⟩
  · cases hm
theorem rLF_6_15_6_2_1 : q_fok (q_cs 6) 15 6 2 1 := by
  intro c hc
  have hm := q_sub_c 6 [6] (by decide +kernel) hc
  rcases q_memb_or hm with rfl | hm
  · exact ⟨RX6, TX6, rfl, (by decide +kernel), ⟨"WhirlShafts$Rates", (by decide +kernel), q_in 238 (by decide +kernel) (by decide +kernel)⟩, (by decide +kernel)⟩
  · cases hm
theorem rLF_6_18_6_3_1 : q_fok (q_cs 6) 18 6 3 1 := by
  intro c hc
  have hm := q_sub_c 6 [6] (by decide +kernel) hc
  rcases q_memb_or hm with rfl | hm
  · exact ⟨RX6, TX6, rfl, (by decide +kernel), ⟨"WhirlShafts$Rates", (by decide +kernel), q_in 239 (by decide +kernel) (by decide +kernel)⟩, (by decide +kernel)⟩
  · cases hm
theorem rLF_6_23_6_4_1 : q_fok (q_cs 6) 23 6 4 1 := by
  intro c hc
  have hm := q_sub_c 6 [6] (by decide +kernel) hc
  rcases q_memb_or hm with rfl | hm
  · exact ⟨RX6, TX6, rfl, (by decide +kernel), ⟨"WhirlShafts$Rates", (by decide +kernel), q_in 240 (by decide +kernel) (by decide +kernel)⟩, (by decide +kernel)⟩
  · cases hm
theorem rLF_6_26_4_6_0 : q_fok (q_cs 6) 26 4 6 0 := by
  intro c hc
  have hm := q_sub_c 4 [4] (by decide +kernel) hc
  rcases q_memb_or hm with rfl | hm
  · exact ⟨RX4, TX4, rfl, (by decide +kernel), ⟨"WhirlShafts$Line", (by decide +kernel), q_in 152 (by decide +kernel) (by decide +kernel)⟩, (by decide +kernel)⟩
  · cases hm
theorem rLF_6_32_6_0_0 : q_fok (q_cs 6) 32 6 0 0 := by
  intro c hc
  have hm := q_sub_c 6 [6] (by decide +kernel) hc
  rcases q_memb_or hm with rfl | hm
  · exact ⟨RX6, TX6, rfl, (by decide +kernel), ⟨"WhirlShafts$Rates", (by decide +kernel), q_in 236 (by decide +kernel) (by decide +kernel)⟩, (by decide +kernel)⟩
  · cases hm
theorem rLF_8_9_8_0_1 : q_fok (q_cs 8) 9 8 0 1 := by
  intro c hc
  have hm := q_sub_c 8 [8] (by decide +kernel) hc
  rcases q_memb_or hm with rfl | hm
  · exact ⟨RX8, TX8, rfl, (by decide +kernel), ⟨"WhirlShafts$Row", (by decide +kernel), q_in 282 (by decide +kernel) (by decide +kernel)⟩, (by decide +kernel)⟩
  · cases hm
theorem rLF_8_15_8_1_0 : q_fok (q_cs 8) 15 8 1 0 := by
  intro c hc
  have hm := q_sub_c 8 [8] (by decide +kernel) hc
  rcases q_memb_or hm with rfl | hm
  · exact ⟨RX8, TX8, rfl, (by decide +kernel), ⟨"WhirlShafts$Row", (by decide +kernel), q_in 284 (by decide +kernel) (by decide +kernel)⟩, (by decide +kernel)⟩
  · cases hm
theorem rLF_8_19_8_2_0 : q_fok (q_cs 8) 19 8 2 0 := by
  intro c hc
  have hm := q_sub_c 8 [8] (by decide +kernel) hc
  rcases q_memb_or hm with rfl | hm
  · exact ⟨RX8, TX8, rfl, (by decide +kernel), ⟨"WhirlShafts$Row", (by decide +kernel), q_in 286 (by decide +kernel) (by decide +kernel)⟩, (by decide +kernel)⟩
  · cases hm
theorem rLF_10_9_10_0_1 : q_fok (q_cs 10) 9 10 0 1 := by
  intro c hc
  have hm := q_sub_c 10 [10] (by decide +kernel) hc
  rcases q_memb_or hm with rfl | hm
  · exact ⟨RX10, TX10, rfl, (by decide +kernel), ⟨"WhirlShafts$Tape", (by decide +kernel), q_in 259 (by decide +kernel) (by decide +kernel)⟩, (by decide +kernel)⟩
  · cases hm
theorem rLF_10_15_10_3_1 : q_fok (q_cs 10) 15 10 3 1 := by
  intro c hc
  have hm := q_sub_c 10 [10] (by decide +kernel) hc
  rcases q_memb_or hm with rfl | hm
  · exact ⟨RX10, TX10, rfl, (by decide +kernel), ⟨"WhirlShafts$Tape", (by decide +kernel), q_in 264 (by decide +kernel) (by decide +kernel)⟩, (by decide +kernel)⟩
  · cases hm
theorem rLF_10_18_10_1_0 : q_fok (q_cs 10) 18 10 1 0 := by
  intro c hc
  have hm := q_sub_c 10 [10] (by decide +kernel) hc
  rcases q_memb_or hm with rfl | hm
  · exact ⟨RX10, TX10, rfl, (by decide +kernel), ⟨"WhirlShafts$Tape", (by decide +kernel), q_in 260 (by decide +kernel) (by decide +kernel)⟩, (by decide +kernel)⟩
  · cases hm
theorem rLF_10_30_10_2_0 : q_fok (q_cs 10) 30 10 2 0 := by
  intro c hc
  have hm := q_sub_c 10 [10] (by decide +kernel) hc
  rcases q_memb_or hm with rfl | hm
  · exact ⟨RX10, TX10, rfl, (by decide +kernel), ⟨"WhirlShafts$Tape", (by decide +kernel), q_in 262 (by decide +kernel) (by decide +kernel)⟩, (by decide +kernel)⟩
  · cases hm
theorem rLF_11_17_11_0_1 : q_fok (q_cs 11) 17 11 0 1 := by
  intro c hc
  have hm := q_sub_c 11 [11] (by decide +kernel) hc
  rcases q_memb_or hm with rfl | hm
  · exact ⟨RX11, TX11, rfl, (by decide +kernel), ⟨"WhirlShafts", (by decide +kernel), q_in 295 (by decide +kernel) (by decide +kernel)⟩, (by decide +kernel)⟩
  · cases hm
theorem rLF_11_39_11_2_1 : q_fok (q_cs 11) 39 11 2 1 := by
  intro c hc
  have hm := q_sub_c 11 [11] (by decide +kernel) hc
  rcases q_memb_or hm with rfl | hm
  · exact ⟨RX11, TX11, rfl, (by decide +kernel), ⟨"WhirlShafts", (by decide +kernel), q_in 297 (by decide +kernel) (by decide +kernel)⟩, (by decide +kernel)⟩
  · cases hm
theorem rLF_11_43_11_3_1 : q_fok (q_cs 11) 43 11 3 1 := by
  intro c hc
  have hm := q_sub_c 11 [11] (by decide +kernel) hc
  rcases q_memb_or hm with rfl | hm
  · exact ⟨RX11, TX11, rfl, (by decide +kernel), ⟨"WhirlShafts", (by decide +kernel), q_in 298 (by decide +kernel) (by decide +kernel)⟩, (by decide +kernel)⟩
  · cases hm
theorem rLF_11_46_11_4_1 : q_fok (q_cs 11) 46 11 4 1 := by
  intro c hc
  have hm := q_sub_c 11 [11] (by decide +kernel) hc
  rcases q_memb_or hm with rfl | hm
  · exact ⟨RX11, TX11, rfl, (by decide +kernel), ⟨"WhirlShafts", (by decide +kernel), q_in 299 (by decide +kernel) (by decide +kernel)⟩, (by decide +kernel)⟩
  · cases hm
theorem rLF_11_52_11_6_1 : q_fok (q_cs 11) 52 11 6 1 := by
  intro c hc
  have hm := q_sub_c 11 [11] (by decide +kernel) hc
  rcases q_memb_or hm with rfl | hm
  · exact ⟨RX11, TX11, rfl, (by decide +kernel), ⟨"WhirlShafts", (by decide +kernel), q_in 301 (by decide +kernel) (by decide +kernel)⟩, (by decide +kernel)⟩
  · cases hm
theorem rLF_11_56_11_7_1 : q_fok (q_cs 11) 56 11 7 1 := by
  intro c hc
  have hm := q_sub_c 11 [11] (by decide +kernel) hc
  rcases q_memb_or hm with rfl | hm
  · exact ⟨RX11, TX11, rfl, (by decide +kernel), ⟨"WhirlShafts", (by decide +kernel), q_in 302 (by decide +kernel) (by decide +kernel)⟩, (by decide +kernel)⟩
  · cases hm
theorem rLF_11_62_11_8_1 : q_fok (q_cs 11) 62 11 8 1 := by
  intro c hc
  have hm := q_sub_c 11 [11] (by decide +kernel) hc
  rcases q_memb_or hm with rfl | hm
  · exact ⟨RX11, TX11, rfl, (by decide +kernel), ⟨"WhirlShafts", (by decide +kernel), q_in 303 (by decide +kernel) (by decide +kernel)⟩, (by decide +kernel)⟩
  · cases hm
theorem rLF_11_69_11_9_1 : q_fok (q_cs 11) 69 11 9 1 := by
  intro c hc
  have hm := q_sub_c 11 [11] (by decide +kernel) hc
  rcases q_memb_or hm with rfl | hm
  · exact ⟨RX11, TX11, rfl, (by decide +kernel), ⟨"WhirlShafts", (by decide +kernel), q_in 304 (by decide +kernel) (by decide +kernel)⟩, (by decide +kernel)⟩
  · cases hm
theorem rLF_11_76_11_10_1 : q_fok (q_cs 11) 76 11 10 1 := by
  intro c hc
  have hm := q_sub_c 11 [11] (by decide +kernel) hc
  rcases q_memb_or hm with rfl | hm
  · exact ⟨RX11, TX11, rfl, (by decide +kernel), ⟨"WhirlShafts", (by decide +kernel), q_in 305 (by decide +kernel) (by decide +kernel)⟩, (by decide +kernel)⟩
  · cases hm
theorem rLF_11_82_11_11_1 : q_fok (q_cs 11) 82 11 11 1 := by
  intro c hc
  have hm := q_sub_c 11 [11] (by decide +kernel) hc
  rcases q_memb_or hm with rfl | hm
  · exact ⟨RX11, TX11, rfl, (by decide +kernel), ⟨"WhirlShafts", (by decide +kernel), q_in 306 (by decide +kernel) (by decide +kernel)⟩, (by decide +kernel)⟩
  · cases hm
theorem rLF_11_95_4_6_0 : q_fok (q_cs 11) 95 4 6 0 := by
  intro c hc
  have hm := q_sub_c 4 [4] (by decide +kernel) hc
  rcases q_memb_or hm with rfl | hm
  · exact ⟨RX4, TX4, rfl, (by decide +kernel), ⟨"WhirlShafts$Line", (by decide +kernel), q_in 154 (by decide +kernel) (by decide +kernel)⟩, (by decide +kernel)⟩
  · cases hm
theorem rLF_11_106_4_7_0 : q_fok (q_cs 11) 106 4 7 0 := by
  intro c hc
  have hm := q_sub_c 4 [4] (by decide +kernel) hc
  rcases q_memb_or hm with rfl | hm
  · exact ⟨RX4, TX4, rfl, (by decide +kernel), ⟨"WhirlShafts$Line", (by decide +kernel), q_in 156 (by decide +kernel) (by decide +kernel)⟩, (by decide +kernel)⟩
  · cases hm
theorem rLF_11_109_4_8_0 : q_fok (q_cs 11) 109 4 8 0 := by
  intro c hc
  have hm := q_sub_c 4 [4] (by decide +kernel) hc
  rcases q_memb_or hm with rfl | hm
  · exact ⟨RX4, TX4, rfl, (by decide +kernel), ⟨"WhirlShafts$Line", (by decide +kernel), q_in 158 (by decide +kernel) (by decide +kernel)⟩, (by decide +kernel)⟩
  · cases hm
theorem rLF_11_140_4_1_1 : q_fok (q_cs 11) 140 4 1 1 := by
  intro c hc
  have hm := q_sub_c 4 [4] (by decide +kernel) hc
  rcases q_memb_or hm with rfl | hm
  · exact ⟨RX4, TX4, rfl, (by decide +kernel), ⟨"WhirlShafts$Line", (by decide +kernel), q_in 145 (by decide +kernel) (by decide +kernel)⟩, (by decide +kernel)⟩
  · cases hm
theorem rLF_11_208_4_4_1 : q_fok (q_cs 11) 208 4 4 1 := by
  intro c hc
  have hm := q_sub_c 4 [4] (by decide +kernel) hc
  rcases q_memb_or hm with rfl | hm
  · exact ⟨RX4, TX4, rfl, (by decide +kernel), ⟨"WhirlShafts$Line", (by decide +kernel), q_in 150 (by decide +kernel) (by decide +kernel)⟩, (by decide +kernel)⟩
  · cases hm
theorem rLF_11_211_4_2_1 : q_fok (q_cs 11) 211 4 2 1 := by
  intro c hc
  have hm := q_sub_c 4 [4] (by decide +kernel) hc
  rcases q_memb_or hm with rfl | hm
  · exact ⟨RX4, TX4, rfl, (by decide +kernel), ⟨"WhirlShafts$Line", (by decide +kernel), q_in 147 (by decide +kernel) (by decide +kernel)⟩, (by decide +kernel)⟩
  · cases hm
theorem rLF_11_225_8_2_0 : q_fok (q_cs 11) 225 8 2 0 := by
  intro c hc
  have hm := q_sub_c 8 [8] (by decide +kernel) hc
  rcases q_memb_or hm with rfl | hm
  · exact ⟨RX8, TX8, rfl, (by decide +kernel), ⟨"WhirlShafts$Row", (by decide +kernel), q_in 287 (by decide +kernel) (by decide +kernel)⟩, (by decide +kernel)⟩
  · cases hm
theorem rLF_11_236_8_0_1 : q_fok (q_cs 11) 236 8 0 1 := by
  intro c hc
  have hm := q_sub_c 8 [8] (by decide +kernel) hc
  rcases q_memb_or hm with rfl | hm
  · exact ⟨RX8, TX8, rfl, (by decide +kernel), ⟨"WhirlShafts$Row", (by decide +kernel), q_in 283 (by decide +kernel) (by decide +kernel)⟩, (by decide +kernel)⟩
  · cases hm
theorem rLF_11_244_5_3_0 : q_fok (q_cs 11) 244 5 3 0 := by
  intro c hc
  have hm := q_sub_c 5 [5] (by decide +kernel) hc
  rcases q_memb_or hm with rfl | hm
  · exact ⟨RX5, TX5, rfl, (by decide +kernel), ⟨"WhirlShafts$Orders", (by decide +kernel), q_in 191 (by decide +kernel) (by decide +kernel)⟩, (by decide +kernel)⟩
  · cases hm
theorem rLF_11_249_5_0_1 : q_fok (q_cs 11) 249 5 0 1 := by
  intro c hc
  have hm := q_sub_c 5 [5] (by decide +kernel) hc
  rcases q_memb_or hm with rfl | hm
  · exact ⟨RX5, TX5, rfl, (by decide +kernel), ⟨"WhirlShafts$Orders", (by decide +kernel), q_in 185 (by decide +kernel) (by decide +kernel)⟩, (by decide +kernel)⟩
  · cases hm
theorem rLF_11_252_5_1_1 : q_fok (q_cs 11) 252 5 1 1 := by
  intro c hc
  have hm := q_sub_c 5 [5] (by decide +kernel) hc
  rcases q_memb_or hm with rfl | hm
  · exact ⟨RX5, TX5, rfl, (by decide +kernel), ⟨"WhirlShafts$Orders", (by decide +kernel), q_in 187 (by decide +kernel) (by decide +kernel)⟩, (by decide +kernel)⟩
  · cases hm
theorem rLF_11_255_5_2_1 : q_fok (q_cs 11) 255 5 2 1 := by
  intro c hc
  have hm := q_sub_c 5 [5] (by decide +kernel) hc
  rcases q_memb_or hm with rfl | hm
  · exact ⟨RX5, TX5, rfl, (by decide +kernel), ⟨"WhirlShafts$Orders", (by decide +kernel), q_in 189 (by decide +kernel) (by decide +kernel)⟩, (by decide +kernel)⟩
  · cases hm
theorem rLF_11_261_0_4_0 : q_fok (q_cs 11) 261 0 4 0 := by
  intro c hc
  have hm := q_sub_c 0 [0] (by decide +kernel) hc
  rcases q_memb_or hm with rfl | hm
  · exact ⟨RX0, TX0, rfl, (by decide +kernel), ⟨"WhirlShafts$Changes", (by decide +kernel), q_in 212 (by decide +kernel) (by decide +kernel)⟩, (by decide +kernel)⟩
  · cases hm
theorem rLF_11_268_0_5_0 : q_fok (q_cs 11) 268 0 5 0 := by
  intro c hc
  have hm := q_sub_c 0 [0] (by decide +kernel) hc
  rcases q_memb_or hm with rfl | hm
  · exact ⟨RX0, TX0, rfl, (by decide +kernel), ⟨"WhirlShafts$Changes", (by decide +kernel), q_in 214 (by decide +kernel) (by decide +kernel)⟩, (by decide +kernel)⟩
  · cases hm
theorem rLF_11_274_10_1_0 : q_fok (q_cs 11) 274 10 1 0 := by
  intro c hc
  have hm := q_sub_c 10 [10] (by decide +kernel) hc
  rcases q_memb_or hm with rfl | hm
  · exact ⟨RX10, TX10, rfl, (by decide +kernel), ⟨"WhirlShafts$Tape", (by decide +kernel), q_in 261 (by decide +kernel) (by decide +kernel)⟩, (by decide +kernel)⟩
  · cases hm
theorem rLF_11_297_8_1_0 : q_fok (q_cs 11) 297 8 1 0 := by
  intro c hc
  have hm := q_sub_c 8 [8] (by decide +kernel) hc
  rcases q_memb_or hm with rfl | hm
  · exact ⟨RX8, TX8, rfl, (by decide +kernel), ⟨"WhirlShafts$Row", (by decide +kernel), q_in 285 (by decide +kernel) (by decide +kernel)⟩, (by decide +kernel)⟩
  · cases hm
theorem rLF_11_309_11_1_2 : q_fok (q_cs 11) 309 11 1 2 := by
  intro c hc
  have hm := q_sub_c 11 [11] (by decide +kernel) hc
  rcases q_memb_or hm with rfl | hm
  · exact ⟨RX11, TX11, rfl, (by decide +kernel), ⟨"WhirlShafts", (by decide +kernel), q_in 296 (by decide +kernel) (by decide +kernel)⟩, (by decide +kernel)⟩
  · cases hm
theorem rLF_11_325_2_1_0 : q_fok (q_cs 11) 325 2 1 0 := by
  intro c hc
  have hm := q_sub_c 2 [1, 2, 3, 7, 9] (by decide +kernel) hc
  rcases q_memb_or hm with rfl | hm
  · exact ⟨RX1, TX1, rfl, (by decide +kernel), ⟨"WhirlShafts$Disc", (by decide +kernel), q_in 80 (by decide +kernel) (by decide +kernel)⟩, (by decide +kernel)⟩
  rcases q_memb_or hm with rfl | hm
  · exact ⟨RX2, TX2, rfl, (by decide +kernel), ⟨"WhirlShafts$Disc", (by decide +kernel), q_in 80 (by decide +kernel) (by decide +kernel)⟩, (by decide +kernel)⟩
  rcases q_memb_or hm with rfl | hm
  · exact ⟨RX3, TX3, rfl, (by decide +kernel), ⟨"WhirlShafts$Disc", (by decide +kernel), q_in 80 (by decide +kernel) (by decide +kernel)⟩, (by decide +kernel)⟩
  rcases q_memb_or hm with rfl | hm
  · exact ⟨RX7, TX7, rfl, (by decide +kernel), ⟨"WhirlShafts$Disc", (by decide +kernel), q_in 80 (by decide +kernel) (by decide +kernel)⟩, (by decide +kernel)⟩
  rcases q_memb_or hm with rfl | hm
  · exact ⟨RX9, TX9, rfl, (by decide +kernel), ⟨"WhirlShafts$Disc", (by decide +kernel), q_in 80 (by decide +kernel) (by decide +kernel)⟩, (by decide +kernel)⟩
  · cases hm
theorem rLF_11_328_2_0_1 : q_fok (q_cs 11) 328 2 0 1 := by
  intro c hc
  have hm := q_sub_c 2 [1, 2, 3, 7, 9] (by decide +kernel) hc
  rcases q_memb_or hm with rfl | hm
  · exact ⟨RX1, TX1, rfl, (by decide +kernel), ⟨"WhirlShafts$Disc", (by decide +kernel), q_in 78 (by decide +kernel) (by decide +kernel)⟩, (by decide +kernel)⟩
  rcases q_memb_or hm with rfl | hm
  · exact ⟨RX2, TX2, rfl, (by decide +kernel), ⟨"WhirlShafts$Disc", (by decide +kernel), q_in 78 (by decide +kernel) (by decide +kernel)⟩, (by decide +kernel)⟩
  rcases q_memb_or hm with rfl | hm
  · exact ⟨RX3, TX3, rfl, (by decide +kernel), ⟨"WhirlShafts$Disc", (by decide +kernel), q_in 78 (by decide +kernel) (by decide +kernel)⟩, (by decide +kernel)⟩
  rcases q_memb_or hm with rfl | hm
  · exact ⟨RX7, TX7, rfl, (by decide +kernel), ⟨"WhirlShafts$Disc", (by decide +kernel), q_in 78 (by decide +kernel) (by decide +kernel)⟩, (by decide +kernel)⟩
  rcases q_memb_or hm with rfl | hm
  · exact ⟨RX9, TX9, rfl, (by decide +kernel), ⟨"WhirlShafts$Disc", (by decide +kernel), q_in 78 (by decide +kernel) (by decide +kernel)⟩, (by decide +kernel)⟩
  · cases hm
theorem rLF_11_337_11_5_0 : q_fok (q_cs 11) 337 11 5 0 := by
  intro c hc
  have hm := q_sub_c 11 [11] (by decide +kernel) hc
  rcases q_memb_or hm with rfl | hm
  · exact ⟨RX11, TX11, rfl, (by decide +kernel), ⟨"WhirlShafts", (by decide +kernel), q_in 300 (by decide +kernel) (by decide +kernel)⟩, (by decide +kernel)⟩
  · cases hm
theorem rLF_11_361_10_2_0 : q_fok (q_cs 11) 361 10 2 0 := by
  intro c hc
  have hm := q_sub_c 10 [10] (by decide +kernel) hc
  rcases q_memb_or hm with rfl | hm
  · exact ⟨RX10, TX10, rfl, (by decide +kernel), ⟨"WhirlShafts$Tape", (by decide +kernel), q_in 263 (by decide +kernel) (by decide +kernel)⟩, (by decide +kernel)⟩
  · cases hm
theorem rLF_11_370_10_3_1 : q_fok (q_cs 11) 370 10 3 1 := by
  intro c hc
  have hm := q_sub_c 10 [10] (by decide +kernel) hc
  rcases q_memb_or hm with rfl | hm
  · exact ⟨RX10, TX10, rfl, (by decide +kernel), ⟨"WhirlShafts$Tape", (by decide +kernel), q_in 265 (by decide +kernel) (by decide +kernel)⟩, (by decide +kernel)⟩
  · cases hm
theorem rLF_12_9_12_3_1 : q_fok (q_cs 12) 9 12 3 1 := by
  intro c hc
  have hm := q_sub_c 12 [12] (by decide +kernel) hc
  rcases q_memb_or hm with rfl | hm
  · exact ⟨RX12, TX12, rfl, (by decide +kernel), ⟨"WhirlShaftsModel", (by decide +kernel), q_in 897 (by decide +kernel) (by decide +kernel)⟩, (by decide +kernel)⟩
  · cases hm
theorem rLF_12_15_12_4_1 : q_fok (q_cs 12) 15 12 4 1 := by
  intro c hc
  have hm := q_sub_c 12 [12] (by decide +kernel) hc
  rcases q_memb_or hm with rfl | hm
  · exact ⟨RX12, TX12, rfl, (by decide +kernel), ⟨"WhirlShaftsModel", (by decide +kernel), q_in 898 (by decide +kernel) (by decide +kernel)⟩, (by decide +kernel)⟩
  · cases hm
theorem rLF_12_18_12_5_1 : q_fok (q_cs 12) 18 12 5 1 := by
  intro c hc
  have hm := q_sub_c 12 [12] (by decide +kernel) hc
  rcases q_memb_or hm with rfl | hm
  · exact ⟨RX12, TX12, rfl, (by decide +kernel), ⟨"WhirlShaftsModel", (by decide +kernel), q_in 899 (by decide +kernel) (by decide +kernel)⟩, (by decide +kernel)⟩
  · cases hm
theorem rLF_12_21_12_6_1 : q_fok (q_cs 12) 21 12 6 1 := by
  intro c hc
  have hm := q_sub_c 12 [12] (by decide +kernel) hc
  rcases q_memb_or hm with rfl | hm
  · exact ⟨RX12, TX12, rfl, (by decide +kernel), ⟨"WhirlShaftsModel", (by decide +kernel), q_in 900 (by decide +kernel) (by decide +kernel)⟩, (by decide +kernel)⟩
  · cases hm
theorem rLF_12_24_12_7_1 : q_fok (q_cs 12) 24 12 7 1 := by
  intro c hc
  have hm := q_sub_c 12 [12] (by decide +kernel) hc
  rcases q_memb_or hm with rfl | hm
  · exact ⟨RX12, TX12, rfl, (by decide +kernel), ⟨"WhirlShaftsModel", (by decide +kernel), q_in 901 (by decide +kernel) (by decide +kernel)⟩, (by decide +kernel)⟩
  · cases hm
theorem rLF_12_27_12_8_1 : q_fok (q_cs 12) 27 12 8 1 := by
  intro c hc
  have hm := q_sub_c 12 [12] (by decide +kernel) hc
  rcases q_memb_or hm with rfl | hm
  · exact ⟨RX12, TX12, rfl, (by decide +kernel), ⟨"WhirlShaftsModel", (by decide +kernel), q_in 902 (by decide +kernel) (by decide +kernel)⟩, (by decide +kernel)⟩
  · cases hm
theorem rLF_12_30_12_9_1 : q_fok (q_cs 12) 30 12 9 1 := by
  intro c hc
  have hm := q_sub_c 12 [12] (by decide +kernel) hc
  rcases q_memb_or hm with rfl | hm
  · exact ⟨RX12, TX12, rfl, (by decide +kernel), ⟨"WhirlShaftsModel", (by decide +kernel), q_in 903 (by decide +kernel) (by decide +kernel)⟩, (by decide +kernel)⟩
  · cases hm
theorem rLF_12_33_12_10_1 : q_fok (q_cs 12) 33 12 10 1 := by
  intro c hc
  have hm := q_sub_c 12 [12] (by decide +kernel) hc
  rcases q_memb_or hm with rfl | hm
  · exact ⟨RX12, TX12, rfl, (by decide +kernel), ⟨"WhirlShaftsModel", (by decide +kernel), q_in 904 (by decide +kernel) (by decide +kernel)⟩, (by decide +kernel)⟩
  · cases hm
theorem rLF_12_36_12_11_1 : q_fok (q_cs 12) 36 12 11 1 := by
  intro c hc
  have hm := q_sub_c 12 [12] (by decide +kernel) hc
  rcases q_memb_or hm with rfl | hm
  · exact ⟨RX12, TX12, rfl, (by decide +kernel), ⟨"WhirlShaftsModel", (by decide +kernel), q_in 905 (by decide +kernel) (by decide +kernel)⟩, (by decide +kernel)⟩
  · cases hm
theorem rLF_12_39_12_12_1 : q_fok (q_cs 12) 39 12 12 1 := by
  intro c hc
  have hm := q_sub_c 12 [12] (by decide +kernel) hc
  rcases q_memb_or hm with rfl | hm
  · exact ⟨RX12, TX12, rfl, (by decide +kernel), ⟨"WhirlShaftsModel", (by decide +kernel), q_in 906 (by decide +kernel) (by decide +kernel)⟩, (by decide +kernel)⟩
  · cases hm
theorem rLF_12_42_12_13_1 : q_fok (q_cs 12) 42 12 13 1 := by
  intro c hc
  have hm := q_sub_c 12 [12] (by decide +kernel) hc
  rcases q_memb_or hm with rfl | hm
  · exact ⟨RX12, TX12, rfl, (by decide +kernel), ⟨"WhirlShaftsModel", (by decide +kernel), q_in 907 (by decide +kernel) (by decide +kernel)⟩, (by decide +kernel)⟩
  · cases hm
theorem rLF_12_46_12_14_1 : q_fok (q_cs 12) 46 12 14 1 := by
  intro c hc
  have hm := q_sub_c 12 [12] (by decide +kernel) hc
  rcases q_memb_or hm with rfl | hm
  · exact ⟨RX12, TX12, rfl, (by decide +kernel), ⟨"WhirlShaftsModel", (by decide +kernel), q_in 908 (by decide +kernel) (by decide +kernel)⟩, (by decide +kernel)⟩
  · cases hm
theorem rLF_12_49_12_15_1 : q_fok (q_cs 12) 49 12 15 1 := by
  intro c hc
  have hm := q_sub_c 12 [12] (by decide +kernel) hc
  rcases q_memb_or hm with rfl | hm
  · exact ⟨RX12, TX12, rfl, (by decide +kernel), ⟨"WhirlShaftsModel", (by decide +kernel), q_in 909 (by decide +kernel) (by decide +kernel)⟩, (by decide +kernel)⟩
  · cases hm
theorem rLF_12_52_12_16_1 : q_fok (q_cs 12) 52 12 16 1 := by
  intro c hc
  have hm := q_sub_c 12 [12] (by decide +kernel) hc
  rcases q_memb_or hm with rfl | hm
  · exact ⟨RX12, TX12, rfl, (by decide +kernel), ⟨"WhirlShaftsModel", (by decide +kernel), q_in 910 (by decide +kernel) (by decide +kernel)⟩, (by decide +kernel)⟩
  · cases hm
theorem rLF_12_55_12_17_1 : q_fok (q_cs 12) 55 12 17 1 := by
  intro c hc
  have hm := q_sub_c 12 [12] (by decide +kernel) hc
  rcases q_memb_or hm with rfl | hm
  · exact ⟨RX12, TX12, rfl, (by decide +kernel), ⟨"WhirlShaftsModel", (by decide +kernel), q_in 911 (by decide +kernel) (by decide +kernel)⟩, (by decide +kernel)⟩
  · cases hm
theorem rLF_12_58_12_18_1 : q_fok (q_cs 12) 58 12 18 1 := by
  intro c hc
  have hm := q_sub_c 12 [12] (by decide +kernel) hc
  rcases q_memb_or hm with rfl | hm
  · exact ⟨RX12, TX12, rfl, (by decide +kernel), ⟨"WhirlShaftsModel", (by decide +kernel), q_in 912 (by decide +kernel) (by decide +kernel)⟩, (by decide +kernel)⟩
  · cases hm
theorem rLF_12_61_12_19_1 : q_fok (q_cs 12) 61 12 19 1 := by
  intro c hc
  have hm := q_sub_c 12 [12] (by decide +kernel) hc
  rcases q_memb_or hm with rfl | hm
  · exact ⟨RX12, TX12, rfl, (by decide +kernel), ⟨"WhirlShaftsModel", (by decide +kernel), q_in 913 (by decide +kernel) (by decide +kernel)⟩, (by decide +kernel)⟩
  · cases hm
theorem rLF_12_64_12_22_1 : q_fok (q_cs 12) 64 12 22 1 := by
  intro c hc
  have hm := q_sub_c 12 [12] (by decide +kernel) hc
  rcases q_memb_or hm with rfl | hm
  · exact ⟨RX12, TX12, rfl, (by decide +kernel), ⟨"WhirlShaftsModel", (by decide +kernel), q_in 916 (by decide +kernel) (by decide +kernel)⟩, (by decide +kernel)⟩
  · cases hm
theorem rLF_12_67_12_23_1 : q_fok (q_cs 12) 67 12 23 1 := by
  intro c hc
  have hm := q_sub_c 12 [12] (by decide +kernel) hc
  rcases q_memb_or hm with rfl | hm
  · exact ⟨RX12, TX12, rfl, (by decide +kernel), ⟨"WhirlShaftsModel", (by decide +kernel), q_in 917 (by decide +kernel) (by decide +kernel)⟩, (by decide +kernel)⟩
  · cases hm
theorem rLF_12_70_12_24_1 : q_fok (q_cs 12) 70 12 24 1 := by
  intro c hc
  have hm := q_sub_c 12 [12] (by decide +kernel) hc
  rcases q_memb_or hm with rfl | hm
  · exact ⟨RX12, TX12, rfl, (by decide +kernel), ⟨"WhirlShaftsModel", (by decide +kernel), q_in 918 (by decide +kernel) (by decide +kernel)⟩, (by decide +kernel)⟩
  · cases hm
theorem rLF_12_73_12_25_1 : q_fok (q_cs 12) 73 12 25 1 := by
  intro c hc
  have hm := q_sub_c 12 [12] (by decide +kernel) hc
  rcases q_memb_or hm with rfl | hm
  · exact ⟨RX12, TX12, rfl, (by decide +kernel), ⟨"WhirlShaftsModel", (by decide +kernel), q_in 919 (by decide +kernel) (by decide +kernel)⟩, (by decide +kernel)⟩
  · cases hm
theorem rLF_12_76_12_27_1 : q_fok (q_cs 12) 76 12 27 1 := by
  intro c hc
  have hm := q_sub_c 12 [12] (by decide +kernel) hc
  rcases q_memb_or hm with rfl | hm
  · exact ⟨RX12, TX12, rfl, (by decide +kernel), ⟨"WhirlShaftsModel", (by decide +kernel), q_in 921 (by decide +kernel) (by decide +kernel)⟩, (by decide +kernel)⟩
  · cases hm
theorem rLF_12_79_12_28_1 : q_fok (q_cs 12) 79 12 28 1 := by
  intro c hc
  have hm := q_sub_c 12 [12] (by decide +kernel) hc
  rcases q_memb_or hm with rfl | hm
  · exact ⟨RX12, TX12, rfl, (by decide +kernel), ⟨"WhirlShaftsModel", (by decide +kernel), q_in 922 (by decide +kernel) (by decide +kernel)⟩, (by decide +kernel)⟩
  · cases hm
theorem rLF_12_82_12_29_1 : q_fok (q_cs 12) 82 12 29 1 := by
  intro c hc
  have hm := q_sub_c 12 [12] (by decide +kernel) hc
  rcases q_memb_or hm with rfl | hm
  · exact ⟨RX12, TX12, rfl, (by decide +kernel), ⟨"WhirlShaftsModel", (by decide +kernel), q_in 923 (by decide +kernel) (by decide +kernel)⟩, (by decide +kernel)⟩
  · cases hm
theorem rLF_12_85_12_30_1 : q_fok (q_cs 12) 85 12 30 1 := by
  intro c hc
  have hm := q_sub_c 12 [12] (by decide +kernel) hc
  rcases q_memb_or hm with rfl | hm
  · exact ⟨RX12, TX12, rfl, (by decide +kernel), ⟨"WhirlShaftsModel", (by decide +kernel), q_in 924 (by decide +kernel) (by decide +kernel)⟩, (by decide +kernel)⟩
  · cases hm
theorem rLF_12_88_12_31_1 : q_fok (q_cs 12) 88 12 31 1 := by
  intro c hc
  have hm := q_sub_c 12 [12] (by decide +kernel) hc
  rcases q_memb_or hm with rfl | hm
  · exact ⟨RX12, TX12, rfl, (by decide +kernel), ⟨"WhirlShaftsModel", (by decide +kernel), q_in 925 (by decide +kernel) (by decide +kernel)⟩, (by decide +kernel)⟩
  · cases hm
theorem rLF_12_91_12_32_1 : q_fok (q_cs 12) 91 12 32 1 := by
  intro c hc
  have hm := q_sub_c 12 [12] (by decide +kernel) hc
  rcases q_memb_or hm with rfl | hm
  · exact ⟨RX12, TX12, rfl, (by decide +kernel), ⟨"WhirlShaftsModel", (by decide +kernel), q_in 926 (by decide +kernel) (by decide +kernel)⟩, (by decide +kernel)⟩
  · cases hm
theorem rLF_12_94_12_33_1 : q_fok (q_cs 12) 94 12 33 1 := by
  intro c hc
  have hm := q_sub_c 12 [12] (by decide +kernel) hc
  rcases q_memb_or hm with rfl | hm
  · exact ⟨RX12, TX12, rfl, (by decide +kernel), ⟨"WhirlShaftsModel", (by decide +kernel), q_in 927 (by decide +kernel) (by decide +kernel)⟩, (by decide +kernel)⟩
  · cases hm
theorem rLF_12_97_12_34_1 : q_fok (q_cs 12) 97 12 34 1 := by
  intro c hc
  have hm := q_sub_c 12 [12] (by decide +kernel) hc
  rcases q_memb_or hm with rfl | hm
  · exact ⟨RX12, TX12, rfl, (by decide +kernel), ⟨"WhirlShaftsModel", (by decide +kernel), q_in 928 (by decide +kernel) (by decide +kernel)⟩, (by decide +kernel)⟩
  · cases hm
theorem rLF_12_100_12_38_1 : q_fok (q_cs 12) 100 12 38 1 := by
  intro c hc
  have hm := q_sub_c 12 [12] (by decide +kernel) hc
  rcases q_memb_or hm with rfl | hm
  · exact ⟨RX12, TX12, rfl, (by decide +kernel), ⟨"WhirlShaftsModel", (by decide +kernel), q_in 932 (by decide +kernel) (by decide +kernel)⟩, (by decide +kernel)⟩
  · cases hm
theorem rLF_12_103_12_40_1 : q_fok (q_cs 12) 103 12 40 1 := by
  intro c hc
  have hm := q_sub_c 12 [12] (by decide +kernel) hc
  rcases q_memb_or hm with rfl | hm
  · exact ⟨RX12, TX12, rfl, (by decide +kernel), ⟨"WhirlShaftsModel", (by decide +kernel), q_in 934 (by decide +kernel) (by decide +kernel)⟩, (by decide +kernel)⟩
  · cases hm
theorem rLF_12_106_12_41_1 : q_fok (q_cs 12) 106 12 41 1 := by
  intro c hc
  have hm := q_sub_c 12 [12] (by decide +kernel) hc
  rcases q_memb_or hm with rfl | hm
  · exact ⟨RX12, TX12, rfl, (by decide +kernel), ⟨"WhirlShaftsModel", (by decide +kernel), q_in 935 (by decide +kernel) (by decide +kernel)⟩, (by decide +kernel)⟩
  · cases hm
theorem rLF_12_109_12_42_1 : q_fok (q_cs 12) 109 12 42 1 := by
  intro c hc
  have hm := q_sub_c 12 [12] (by decide +kernel) hc
  rcases q_memb_or hm with rfl | hm
  · exact ⟨RX12, TX12, rfl, (by decide +kernel), ⟨"WhirlShaftsModel", (by decide +kernel), q_in 936 (by decide +kernel) (by decide +kernel)⟩, (by decide +kernel)⟩
  · cases hm
theorem rLF_12_112_12_43_1 : q_fok (q_cs 12) 112 12 43 1 := by
  intro c hc
  have hm := q_sub_c 12 [12] (by decide +kernel) hc
  rcases q_memb_or hm with rfl | hm
  · exact ⟨RX12, TX12, rfl, (by decide +kernel), ⟨"WhirlShaftsModel", (by decide +kernel), q_in 937 (by decide +kernel) (by decide +kernel)⟩, (by decide +kernel)⟩
  · cases hm
theorem rLF_12_115_12_45_0 : q_fok (q_cs 12) 115 12 45 0 := by
  intro c hc
  have hm := q_sub_c 12 [12] (by decide +kernel) hc
  rcases q_memb_or hm with rfl | hm
  · exact ⟨RX12, TX12, rfl, (by decide +kernel), ⟨"WhirlShaftsModel", (by decide +kernel), q_in 939 (by decide +kernel) (by decide +kernel)⟩, (by decide +kernel)⟩
  · cases hm
theorem rLF_12_119_12_0_0 : q_fok (q_cs 12) 119 12 0 0 := by
  intro c hc
  have hm := q_sub_c 12 [12] (by decide +kernel) hc
  rcases q_memb_or hm with rfl | hm
  · exact ⟨RX12, TX12, rfl, (by decide +kernel), ⟨"WhirlShaftsModel", (by decide +kernel), q_in 894 (by decide +kernel) (by decide +kernel)⟩, (by decide +kernel)⟩
  · cases hm
theorem rLF_12_130_12_1_0 : q_fok (q_cs 12) 130 12 1 0 := by
  intro c hc
  have hm := q_sub_c 12 [12] (by decide +kernel) hc
  rcases q_memb_or hm with rfl | hm
  · exact ⟨RX12, TX12, rfl, (by decide +kernel), ⟨"WhirlShaftsModel", (by decide +kernel), q_in 895 (by decide +kernel) (by decide +kernel)⟩, (by decide +kernel)⟩
  · cases hm
theorem rLF_12_137_12_2_0 : q_fok (q_cs 12) 137 12 2 0 := by
  intro c hc
  have hm := q_sub_c 12 [12] (by decide +kernel) hc
  rcases q_memb_or hm with rfl | hm
  · exact ⟨RX12, TX12, rfl, (by decide +kernel), ⟨"WhirlShaftsModel", (by decide +kernel), q_in 896 (by decide +kernel) (by decide +kernel)⟩, (by decide +kernel)⟩
  · cases hm
theorem rLF_12_166_12_20_0 : q_fok (q_cs 12) 166 12 20 0 := by
  intro c hc
  have hm := q_sub_c 12 [12] (by decide +kernel) hc
  rcases q_memb_or hm with rfl | hm
  · exact ⟨RX12, TX12, rfl, (by decide +kernel), ⟨"WhirlShaftsModel", (by decide +kernel), q_in 914 (by decide +kernel) (by decide +kernel)⟩, (by decide +kernel)⟩
  · cases hm
theorem rLF_12_169_12_21_0 : q_fok (q_cs 12) 169 12 21 0 := by
  intro c hc
  have hm := q_sub_c 12 [12] (by decide +kernel) hc
  rcases q_memb_or hm with rfl | hm
  · exact ⟨RX12, TX12, rfl, (by decide +kernel), ⟨"WhirlShaftsModel", (by decide +kernel), q_in 915 (by decide +kernel) (by decide +kernel)⟩, (by decide +kernel)⟩
  · cases hm
theorem rLF_12_247_12_26_0 : q_fok (q_cs 12) 247 12 26 0 := by
  intro c hc
  have hm := q_sub_c 12 [12] (by decide +kernel) hc
  rcases q_memb_or hm with rfl | hm
  · exact ⟨RX12, TX12, rfl, (by decide +kernel), ⟨"WhirlShaftsModel", (by decide +kernel), q_in 920 (by decide +kernel) (by decide +kernel)⟩, (by decide +kernel)⟩
  · cases hm
theorem rLF_12_257_12_35_0 : q_fok (q_cs 12) 257 12 35 0 := by
  intro c hc
  have hm := q_sub_c 12 [12] (by decide +kernel) hc
  rcases q_memb_or hm with rfl | hm
  · exact ⟨RX12, TX12, rfl, (by decide +kernel), ⟨"WhirlShaftsModel", (by decide +kernel), q_in 929 (by decide +kernel) (by decide +kernel)⟩, (by decide +kernel)⟩
  · cases hm
theorem rLF_12_260_12_36_0 : q_fok (q_cs 12) 260 12 36 0 := by
  intro c hc
  have hm := q_sub_c 12 [12] (by decide +kernel) hc
  rcases q_memb_or hm with rfl | hm
  · exact ⟨RX12, TX12, rfl, (by decide +kernel), ⟨"WhirlShaftsModel", (by decide +kernel), q_in 930 (by decide +kernel) (by decide +kernel)⟩, (by decide +kernel)⟩
  · cases hm
theorem rLF_12_269_12_37_0 : q_fok (q_cs 12) 269 12 37 0 := by
  intro c hc
  have hm := q_sub_c 12 [12] (by decide +kernel) hc
  rcases q_memb_or hm with rfl | hm
  · exact ⟨RX12, TX12, rfl, (by decide +kernel), ⟨"WhirlShaftsModel", (by decide +kernel), q_in 931 (by decide +kernel) (by decide +kernel)⟩, (by decide +kernel)⟩
  · cases hm
theorem rLF_12_291_12_39_0 : q_fok (q_cs 12) 291 12 39 0 := by
  intro c hc
  have hm := q_sub_c 12 [12] (by decide +kernel) hc
  rcases q_memb_or hm with rfl | hm
  · exact ⟨RX12, TX12, rfl, (by decide +kernel), ⟨"WhirlShaftsModel", (by decide +kernel), q_in 933 (by decide +kernel) (by decide +kernel)⟩, (by decide +kernel)⟩
  · cases hm
theorem rLF_12_306_12_46_0 : q_fok (q_cs 12) 306 12 46 0 := by
  intro c hc
  have hm := q_sub_c 12 [12] (by decide +kernel) hc
  rcases q_memb_or hm with rfl | hm
  · exact ⟨RX12, TX12, rfl, (by decide +kernel), ⟨"WhirlShaftsModel", (by decide +kernel), q_in 940 (by decide +kernel) (by decide +kernel)⟩, (by decide +kernel)⟩
  · cases hm
theorem rLF_12_310_12_44_0 : q_fok (q_cs 12) 310 12 44 0 := by
  intro c hc
  have hm := q_sub_c 12 [12] (by decide +kernel) hc
  rcases q_memb_or hm with rfl | hm
  · exact ⟨RX12, TX12, rfl, (by decide +kernel), ⟨"WhirlShaftsModel", (by decide +kernel), q_in 938 (by decide +kernel) (by decide +kernel)⟩, (by decide +kernel)⟩
  · cases hm
theorem rLP_0_24_0_4_0 : q_pok (q_cs 0) 24 0 4 .int := by
  intro c hc
  have hm := q_sub_c 0 [0] (by decide +kernel) hc
  rcases q_memb_or hm with rfl | hm
  · exact ⟨RX0, TX0, rfl, (by decide +kernel), ⟨"WhirlShafts$Changes", (by decide +kernel), q_in 211 (by decide +kernel) (by decide +kernel)⟩, (by decide +kernel), (by decide +kernel), (by decide +kernel)⟩
  · cases hm
theorem rLP_0_28_0_5_0 : q_pok (q_cs 0) 28 0 5 .int := by
  intro c hc
  have hm := q_sub_c 0 [0] (by decide +kernel) hc
  rcases q_memb_or hm with rfl | hm
  · exact ⟨RX0, TX0, rfl, (by decide +kernel), ⟨"WhirlShafts$Changes", (by decide +kernel), q_in 213 (by decide +kernel) (by decide +kernel)⟩, (by decide +kernel), (by decide +kernel), (by decide +kernel)⟩
  · cases hm
theorem rLP_2_15_2_1_0 : q_pok (q_cs 2) 15 2 1 .int := by
  intro c hc
  have hm := q_sub_c 2 [1, 2, 3, 7, 9] (by decide +kernel) hc
  rcases q_memb_or hm with rfl | hm
  · exact ⟨RX1, TX1, rfl, (by decide +kernel), ⟨"WhirlShafts$Disc", (by decide +kernel), q_in 79 (by decide +kernel) (by decide +kernel)⟩, (by decide +kernel), (by decide +kernel), (by decide +kernel)⟩
  rcases q_memb_or hm with rfl | hm
  · exact ⟨RX2, TX2, rfl, (by decide +kernel), ⟨"WhirlShafts$Disc", (by decide +kernel), q_in 79 (by decide +kernel) (by decide +kernel)⟩, (by decide +kernel), (by decide +kernel), (by decide +kernel)⟩
  rcases q_memb_or hm with rfl | hm
  · exact ⟨RX3, TX3, rfl, (by decide +kernel), ⟨"WhirlShafts$Disc", (by decide +kernel), q_in 79 (by decide +kernel) (by decide +kernel)⟩, (by decide +kernel), (by decide +kernel), (by decide +kernel)⟩
  rcases q_memb_or hm with rfl | hm
  · exact ⟨RX7, TX7, rfl, (by decide +kernel), ⟨"WhirlShafts$Disc", (by decide +kernel), q_in 79 (by decide +kernel) (by decide +kernel)⟩, (by decide +kernel), (by decide +kernel), (by decide +kernel)⟩
  rcases q_memb_or hm with rfl | hm
  · exact ⟨RX9, TX9, rfl, (by decide +kernel), ⟨"WhirlShafts$Disc", (by decide +kernel), q_in 79 (by decide +kernel) (by decide +kernel)⟩, (by decide +kernel), (by decide +kernel), (by decide +kernel)⟩
  · cases hm
theorem rLP_2_19_2_2_0 : q_pok (q_cs 2) 19 2 2 .int := by
  intro c hc
  have hm := q_sub_c 2 [1, 2, 3, 7, 9] (by decide +kernel) hc
  rcases q_memb_or hm with rfl | hm
  · exact ⟨RX1, TX1, rfl, (by decide +kernel), ⟨"WhirlShafts$Disc", (by decide +kernel), q_in 81 (by decide +kernel) (by decide +kernel)⟩, (by decide +kernel), (by decide +kernel), (by decide +kernel)⟩
  rcases q_memb_or hm with rfl | hm
  · exact ⟨RX2, TX2, rfl, (by decide +kernel), ⟨"WhirlShafts$Disc", (by decide +kernel), q_in 81 (by decide +kernel) (by decide +kernel)⟩, (by decide +kernel), (by decide +kernel), (by decide +kernel)⟩
  rcases q_memb_or hm with rfl | hm
  · exact ⟨RX3, TX3, rfl, (by decide +kernel), ⟨"WhirlShafts$Disc", (by decide +kernel), q_in 81 (by decide +kernel) (by decide +kernel)⟩, (by decide +kernel), (by decide +kernel), (by decide +kernel)⟩
  rcases q_memb_or hm with rfl | hm
  · exact ⟨RX7, TX7, rfl, (by decide +kernel), ⟨"WhirlShafts$Disc", (by decide +kernel), q_in 81 (by decide +kernel) (by decide +kernel)⟩, (by decide +kernel), (by decide +kernel), (by decide +kernel)⟩
  rcases q_memb_or hm with rfl | hm
  · exact ⟨RX9, TX9, rfl, (by decide +kernel), ⟨"WhirlShafts$Disc", (by decide +kernel), q_in 81 (by decide +kernel) (by decide +kernel)⟩, (by decide +kernel), (by decide +kernel), (by decide +kernel)⟩
  · cases hm
theorem rLP_2_22_2_3_0 : q_pok (q_cs 2) 22 2 3 .int := by
  intro c hc
  have hm := q_sub_c 2 [1, 2, 3, 7, 9] (by decide +kernel) hc
  rcases q_memb_or hm with rfl | hm
  · exact ⟨RX1, TX1, rfl, (by decide +kernel), ⟨"WhirlShafts$Disc", (by decide +kernel), q_in 82 (by decide +kernel) (by decide +kernel)⟩, (by decide +kernel), (by decide +kernel), (by decide +kernel)⟩
  rcases q_memb_or hm with rfl | hm
  · exact ⟨RX2, TX2, rfl, (by decide +kernel), ⟨"WhirlShafts$Disc", (by decide +kernel), q_in 82 (by decide +kernel) (by decide +kernel)⟩, (by decide +kernel), (by decide +kernel), (by decide +kernel)⟩
  rcases q_memb_or hm with rfl | hm
  · exact ⟨RX3, TX3, rfl, (by decide +kernel), ⟨"WhirlShafts$Disc", (by decide +kernel), q_in 82 (by decide +kernel) (by decide +kernel)⟩, (by decide +kernel), (by decide +kernel), (by decide +kernel)⟩
  rcases q_memb_or hm with rfl | hm
  · exact ⟨RX7, TX7, rfl, (by decide +kernel), ⟨"WhirlShafts$Disc", (by decide +kernel), q_in 82 (by decide +kernel) (by decide +kernel)⟩, (by decide +kernel), (by decide +kernel), (by decide +kernel)⟩
  rcases q_memb_or hm with rfl | hm
  · exact ⟨RX9, TX9, rfl, (by decide +kernel), ⟨"WhirlShafts$Disc", (by decide +kernel), q_in 82 (by decide +kernel) (by decide +kernel)⟩, (by decide +kernel), (by decide +kernel), (by decide +kernel)⟩
  · cases hm
theorem rLP_4_31_4_6_0 : q_pok (q_cs 4) 31 4 6 .int := by
  intro c hc
  have hm := q_sub_c 4 [4] (by decide +kernel) hc
  rcases q_memb_or hm with rfl | hm
  · exact ⟨RX4, TX4, rfl, (by decide +kernel), ⟨"WhirlShafts$Line", (by decide +kernel), q_in 153 (by decide +kernel) (by decide +kernel)⟩, (by decide +kernel), (by decide +kernel), (by decide +kernel)⟩
  · cases hm
theorem rLP_4_35_4_7_0 : q_pok (q_cs 4) 35 4 7 .int := by
  intro c hc
  have hm := q_sub_c 4 [4] (by decide +kernel) hc
  rcases q_memb_or hm with rfl | hm
  · exact ⟨RX4, TX4, rfl, (by decide +kernel), ⟨"WhirlShafts$Line", (by decide +kernel), q_in 155 (by decide +kernel) (by decide +kernel)⟩, (by decide +kernel), (by decide +kernel), (by decide +kernel)⟩
  · cases hm
theorem rLP_4_38_4_8_0 : q_pok (q_cs 4) 38 4 8 .int := by
  intro c hc
  have hm := q_sub_c 4 [4] (by decide +kernel) hc
  rcases q_memb_or hm with rfl | hm
  · exact ⟨RX4, TX4, rfl, (by decide +kernel), ⟨"WhirlShafts$Line", (by decide +kernel), q_in 157 (by decide +kernel) (by decide +kernel)⟩, (by decide +kernel), (by decide +kernel), (by decide +kernel)⟩
  · cases hm
theorem rLP_5_21_5_3_0 : q_pok (q_cs 5) 21 5 3 .int := by
  intro c hc
  have hm := q_sub_c 5 [5] (by decide +kernel) hc
  rcases q_memb_or hm with rfl | hm
  · exact ⟨RX5, TX5, rfl, (by decide +kernel), ⟨"WhirlShafts$Orders", (by decide +kernel), q_in 190 (by decide +kernel) (by decide +kernel)⟩, (by decide +kernel), (by decide +kernel), (by decide +kernel)⟩
  · cases hm
theorem rLP_6_32_6_0_0 : q_pok (q_cs 6) 32 6 0 .int := by
  intro c hc
  have hm := q_sub_c 6 [6] (by decide +kernel) hc
  rcases q_memb_or hm with rfl | hm
  · exact ⟨RX6, TX6, rfl, (by decide +kernel), ⟨"WhirlShafts$Rates", (by decide +kernel), q_in 236 (by decide +kernel) (by decide +kernel)⟩, (by decide +kernel), (by decide +kernel), (by decide +kernel)⟩
  · cases hm
theorem rLP_8_15_8_1_0 : q_pok (q_cs 8) 15 8 1 .int := by
  intro c hc
  have hm := q_sub_c 8 [8] (by decide +kernel) hc
  rcases q_memb_or hm with rfl | hm
  · exact ⟨RX8, TX8, rfl, (by decide +kernel), ⟨"WhirlShafts$Row", (by decide +kernel), q_in 284 (by decide +kernel) (by decide +kernel)⟩, (by decide +kernel), (by decide +kernel), (by decide +kernel)⟩
  · cases hm
theorem rLP_8_19_8_2_0 : q_pok (q_cs 8) 19 8 2 .int := by
  intro c hc
  have hm := q_sub_c 8 [8] (by decide +kernel) hc
  rcases q_memb_or hm with rfl | hm
  · exact ⟨RX8, TX8, rfl, (by decide +kernel), ⟨"WhirlShafts$Row", (by decide +kernel), q_in 286 (by decide +kernel) (by decide +kernel)⟩, (by decide +kernel), (by decide +kernel), (by decide +kernel)⟩
  · cases hm
theorem rLP_10_18_10_1_0 : q_pok (q_cs 10) 18 10 1 .int := by
  intro c hc
  have hm := q_sub_c 10 [10] (by decide +kernel) hc
  rcases q_memb_or hm with rfl | hm
  · exact ⟨RX10, TX10, rfl, (by decide +kernel), ⟨"WhirlShafts$Tape", (by decide +kernel), q_in 260 (by decide +kernel) (by decide +kernel)⟩, (by decide +kernel), (by decide +kernel), (by decide +kernel)⟩
  · cases hm
theorem rLP_10_30_10_2_0 : q_pok (q_cs 10) 30 10 2 .int := by
  intro c hc
  have hm := q_sub_c 10 [10] (by decide +kernel) hc
  rcases q_memb_or hm with rfl | hm
  · exact ⟨RX10, TX10, rfl, (by decide +kernel), ⟨"WhirlShafts$Tape", (by decide +kernel), q_in 262 (by decide +kernel) (by decide +kernel)⟩, (by decide +kernel), (by decide +kernel), (by decide +kernel)⟩
  · cases hm
theorem rLP_11_95_4_6_0 : q_pok (q_cs 11) 95 4 6 .int := by
  intro c hc
  have hm := q_sub_c 4 [4] (by decide +kernel) hc
  rcases q_memb_or hm with rfl | hm
  · exact ⟨RX4, TX4, rfl, (by decide +kernel), ⟨"WhirlShafts$Line", (by decide +kernel), q_in 154 (by decide +kernel) (by decide +kernel)⟩, (by decide +kernel), (by decide +kernel), (by decide +kernel)⟩
  · cases hm
theorem rLP_11_106_4_7_0 : q_pok (q_cs 11) 106 4 7 .int := by
  intro c hc
  have hm := q_sub_c 4 [4] (by decide +kernel) hc
  rcases q_memb_or hm with rfl | hm
  · exact ⟨RX4, TX4, rfl, (by decide +kernel), ⟨"WhirlShafts$Line", (by decide +kernel), q_in 156 (by decide +kernel) (by decide +kernel)⟩, (by decide +kernel), (by decide +kernel), (by decide +kernel)⟩
  · cases hm
theorem rLP_11_109_4_8_0 : q_pok (q_cs 11) 109 4 8 .int := by
  intro c hc
  have hm := q_sub_c 4 [4] (by decide +kernel) hc
  rcases q_memb_or hm with rfl | hm
  · exact ⟨RX4, TX4, rfl, (by decide +kernel), ⟨"WhirlShafts$Line", (by decide +kernel), q_in 158 (by decide +kernel) (by decide +kernel)⟩, (by decide +kernel), (by decide +kernel), (by decide +kernel)⟩
  · cases hm
theorem rLP_11_244_5_3_0 : q_pok (q_cs 11) 244 5 3 .int := by
  intro c hc
  have hm := q_sub_c 5 [5] (by decide +kernel) hc
  rcases q_memb_or hm with rfl | hm
  · exact ⟨RX5, TX5, rfl, (by decide +kernel), ⟨"WhirlShafts$Orders", (by decide +kernel), q_in 191 (by decide +kernel) (by decide +kernel)⟩, (by decide +kernel), (by decide +kernel), (by decide +kernel)⟩
  · cases hm
theorem rLP_11_274_10_1_0 : q_pok (q_cs 11) 274 10 1 .int := by
  intro c hc
  have hm := q_sub_c 10 [10] (by decide +kernel) hc
  rcases q_memb_or hm with rfl | hm
  · exact ⟨RX10, TX10, rfl, (by decide +kernel), ⟨"WhirlShafts$Tape", (by decide +kernel), q_in 261 (by decide +kernel) (by decide +kernel)⟩, (by decide +kernel), (by decide +kernel), (by decide +kernel)⟩
  · cases hm
theorem rLP_11_309_11_1_2 : q_pok (q_cs 11) 309 11 1 (.object "WhirlShafts$Disc") := by
  intro c hc
  have hm := q_sub_c 11 [11] (by decide +kernel) hc
  rcases q_memb_or hm with rfl | hm
  · exact ⟨RX11, TX11, rfl, (by decide +kernel), ⟨"WhirlShafts", (by decide +kernel), q_in 296 (by decide +kernel) (by decide +kernel)⟩, (by decide +kernel), (by decide +kernel), (by decide +kernel)⟩
  · cases hm
theorem rLP_11_337_11_5_4 : q_pok (q_cs 11) 337 11 5 .boolean := by
  intro c hc
  have hm := q_sub_c 11 [11] (by decide +kernel) hc
  rcases q_memb_or hm with rfl | hm
  · exact ⟨RX11, TX11, rfl, (by decide +kernel), ⟨"WhirlShafts", (by decide +kernel), q_in 300 (by decide +kernel) (by decide +kernel)⟩, (by decide +kernel), (by decide +kernel), (by decide +kernel)⟩
  · cases hm
theorem rLP_11_361_10_2_0 : q_pok (q_cs 11) 361 10 2 .int := by
  intro c hc
  have hm := q_sub_c 10 [10] (by decide +kernel) hc
  rcases q_memb_or hm with rfl | hm
  · exact ⟨RX10, TX10, rfl, (by decide +kernel), ⟨"WhirlShafts$Tape", (by decide +kernel), q_in 263 (by decide +kernel) (by decide +kernel)⟩, (by decide +kernel), (by decide +kernel), (by decide +kernel)⟩
  · cases hm
theorem rLP_12_115_12_45_0 : q_pok (q_cs 12) 115 12 45 .int := by
  intro c hc
  have hm := q_sub_c 12 [12] (by decide +kernel) hc
  rcases q_memb_or hm with rfl | hm
  · exact ⟨RX12, TX12, rfl, (by decide +kernel), ⟨"WhirlShaftsModel", (by decide +kernel), q_in 939 (by decide +kernel) (by decide +kernel)⟩, (by decide +kernel), (by decide +kernel), (by decide +kernel)⟩
  · cases hm
theorem rLP_12_119_12_0_0 : q_pok (q_cs 12) 119 12 0 .int := by
  intro c hc
  have hm := q_sub_c 12 [12] (by decide +kernel) hc
  rcases q_memb_or hm with rfl | hm
  · exact ⟨RX12, TX12, rfl, (by decide +kernel), ⟨"WhirlShaftsModel", (by decide +kernel), q_in 894 (by decide +kernel) (by decide +kernel)⟩, (by decide +kernel), (by decide +kernel), (by decide +kernel)⟩
  · cases hm
theorem rLP_12_130_12_1_0 : q_pok (q_cs 12) 130 12 1 .int := by
  intro c hc
  have hm := q_sub_c 12 [12] (by decide +kernel) hc
  rcases q_memb_or hm with rfl | hm
  · exact ⟨RX12, TX12, rfl, (by decide +kernel), ⟨"WhirlShaftsModel", (by decide +kernel), q_in 895 (by decide +kernel) (by decide +kernel)⟩, (by decide +kernel), (by decide +kernel), (by decide +kernel)⟩
  · cases hm
theorem rLP_12_137_12_2_0 : q_pok (q_cs 12) 137 12 2 .int := by
  intro c hc
  have hm := q_sub_c 12 [12] (by decide +kernel) hc
  rcases q_memb_or hm with rfl | hm
  · exact ⟨RX12, TX12, rfl, (by decide +kernel), ⟨"WhirlShaftsModel", (by decide +kernel), q_in 896 (by decide +kernel) (by decide +kernel)⟩, (by decide +kernel), (by decide +kernel), (by decide +kernel)⟩
  · cases hm
theorem rLP_12_166_12_20_0 : q_pok (q_cs 12) 166 12 20 .int := by
  intro c hc
  have hm := q_sub_c 12 [12] (by decide +kernel) hc
  rcases q_memb_or hm with rfl | hm
  · exact ⟨RX12, TX12, rfl, (by decide +kernel), ⟨"WhirlShaftsModel", (by decide +kernel), q_in 914 (by decide +kernel) (by decide +kernel)⟩, (by decide +kernel), (by decide +kernel), (by decide +kernel)⟩
  · cases hm
theorem rLP_12_169_12_21_0 : q_pok (q_cs 12) 169 12 21 .int := by
  intro c hc
  have hm := q_sub_c 12 [12] (by decide +kernel) hc
  rcases q_memb_or hm with rfl | hm
  · exact ⟨RX12, TX12, rfl, (by decide +kernel), ⟨"WhirlShaftsModel", (by decide +kernel), q_in 915 (by decide +kernel) (by decide +kernel)⟩, (by decide +kernel), (by decide +kernel), (by decide +kernel)⟩
  · cases hm
theorem rLP_12_247_12_26_0 : q_pok (q_cs 12) 247 12 26 .int := by
  intro c hc
  have hm := q_sub_c 12 [12] (by decide +kernel) hc
  rcases q_memb_or hm with rfl | hm
  · exact ⟨RX12, TX12, rfl, (by decide +kernel), ⟨"WhirlShaftsModel", (by decide +kernel), q_in 920 (by decide +kernel) (by decide +kernel)⟩, (by decide +kernel), (by decide +kernel), (by decide +kernel)⟩
  · cases hm
theorem rLP_12_257_12_35_0 : q_pok (q_cs 12) 257 12 35 .int := by
  intro c hc
  have hm := q_sub_c 12 [12] (by decide +kernel) hc
  rcases q_memb_or hm with rfl | hm
  · exact ⟨RX12, TX12, rfl, (by decide +kernel), ⟨"WhirlShaftsModel", (by decide +kernel), q_in 929 (by decide +kernel) (by decide +kernel)⟩, (by decide +kernel), (by decide +kernel), (by decide +kernel)⟩
  · cases hm
theorem rLP_12_260_12_36_0 : q_pok (q_cs 12) 260 12 36 .int := by
  intro c hc
  have hm := q_sub_c 12 [12] (by decide +kernel) hc
  rcases q_memb_or hm with rfl | hm
  · exact ⟨RX12, TX12, rfl, (by decide +kernel), ⟨"WhirlShaftsModel", (by decide +kernel), q_in 930 (by decide +kernel) (by decide +kernel)⟩, (by decide +kernel), (by decide +kernel), (by decide +kernel)⟩
  · cases hm
theorem rLP_12_269_12_37_0 : q_pok (q_cs 12) 269 12 37 .int := by
  intro c hc
  have hm := q_sub_c 12 [12] (by decide +kernel) hc
  rcases q_memb_or hm with rfl | hm
  · exact ⟨RX12, TX12, rfl, (by decide +kernel), ⟨"WhirlShaftsModel", (by decide +kernel), q_in 931 (by decide +kernel) (by decide +kernel)⟩, (by decide +kernel), (by decide +kernel), (by decide +kernel)⟩
  · cases hm
theorem rLP_12_291_12_39_0 : q_pok (q_cs 12) 291 12 39 .int := by
  intro c hc
  have hm := q_sub_c 12 [12] (by decide +kernel) hc
  rcases q_memb_or hm with rfl | hm
  · exact ⟨RX12, TX12, rfl, (by decide +kernel), ⟨"WhirlShaftsModel", (by decide +kernel), q_in 933 (by decide +kernel) (by decide +kernel)⟩, (by decide +kernel), (by decide +kernel), (by decide +kernel)⟩
  · cases hm
theorem rLP_12_306_12_46_4 : q_pok (q_cs 12) 306 12 46 .boolean := by
  intro c hc
  have hm := q_sub_c 12 [12] (by decide +kernel) hc
  rcases q_memb_or hm with rfl | hm
  · exact ⟨RX12, TX12, rfl, (by decide +kernel), ⟨"WhirlShaftsModel", (by decide +kernel), q_in 940 (by decide +kernel) (by decide +kernel)⟩, (by decide +kernel), (by decide +kernel), (by decide +kernel)⟩
  · cases hm
theorem rLP_12_310_12_44_0 : q_pok (q_cs 12) 310 12 44 .int := by
  intro c hc
  have hm := q_sub_c 12 [12] (by decide +kernel) hc
  rcases q_memb_or hm with rfl | hm
  · exact ⟨RX12, TX12, rfl, (by decide +kernel), ⟨"WhirlShaftsModel", (by decide +kernel), q_in 938 (by decide +kernel) (by decide +kernel)⟩, (by decide +kernel), (by decide +kernel), (by decide +kernel)⟩
  · cases hm
theorem rLV_0_31_0_2 : q_okV (q_cs 0) 31 (q_cs 0) 2 0 := Or.inl ⟨(by decide +kernel), q_in 399 (by decide +kernel) (by decide +kernel), q_in 400 (by decide +kernel) (by decide +kernel), q_in 401 (by decide +kernel) (by decide +kernel), (by decide +kernel)⟩
theorem rLV_0_40_4_24 : q_okV (q_cs 0) 40 (q_cs 4) 24 3 := Or.inl ⟨(by decide +kernel), q_in 670 (by decide +kernel) (by decide +kernel), q_in 392 (by decide +kernel) (by decide +kernel), q_in 393 (by decide +kernel) (by decide +kernel), (by decide +kernel)⟩
theorem rLV_1_11_1_9 : q_okV (q_cs 1) 11 (q_cs 1) 9 1 := Or.inr (Or.inl ⟨⟨"WhirlShafts$Crown", "note", "(I)V"⟩, q_in 781 (by decide +kernel) (by decide +kernel), q_in 782 (by decide +kernel) (by decide +kernel), q_in 784 (by decide +kernel) (by decide +kernel), q_in 785 (by decide +kernel) (by decide +kernel), (by decide +kernel), (by decide +kernel)⟩)
theorem rLV_2_25_1_9 : q_okV (q_cs 2) 25 (q_cs 1) 9 1 := Or.inr (Or.inl ⟨⟨"WhirlShafts$Disc", "note", "(I)V"⟩, q_in 801 (by decide +kernel) (by decide +kernel), q_in 1387 (by decide +kernel) (by decide +kernel), q_in 1388 (by decide +kernel) (by decide +kernel), q_in 785 (by decide +kernel) (by decide +kernel), (by decide +kernel), (by decide +kernel)⟩)
theorem rLV_2_25_2_9 : q_okV (q_cs 2) 25 (q_cs 2) 9 1 := Or.inl ⟨(by decide +kernel), q_in 801 (by decide +kernel) (by decide +kernel), q_in 785 (by decide +kernel) (by decide +kernel), q_in 1389 (by decide +kernel) (by decide +kernel), (by decide +kernel)⟩
theorem rLV_2_25_3_9 : q_okV (q_cs 2) 25 (q_cs 3) 9 1 := Or.inr (Or.inl ⟨⟨"WhirlShafts$Disc", "note", "(I)V"⟩, q_in 801 (by decide +kernel) (by decide +kernel), q_in 1387 (by decide +kernel) (by decide +kernel), q_in 1390 (by decide +kernel) (by decide +kernel), q_in 785 (by decide +kernel) (by decide +kernel), (by decide +kernel), (by decide +kernel)⟩)
theorem rLV_2_25_7_9 : q_okV (q_cs 2) 25 (q_cs 7) 9 1 := Or.inr (Or.inl ⟨⟨"WhirlShafts$Disc", "note", "(I)V"⟩, q_in 801 (by decide +kernel) (by decide +kernel), q_in 1387 (by decide +kernel) (by decide +kernel), q_in 1391 (by decide +kernel) (by decide +kernel), q_in 785 (by decide +kernel) (by decide +kernel), (by decide +kernel), (by decide +kernel)⟩)
theorem rLV_2_25_9_9 : q_okV (q_cs 2) 25 (q_cs 9) 9 1 := Or.inr (Or.inl ⟨⟨"WhirlShafts$Disc", "note", "(I)V"⟩, q_in 801 (by decide +kernel) (by decide +kernel), q_in 1387 (by decide +kernel) (by decide +kernel), q_in 1392 (by decide +kernel) (by decide +kernel), q_in 785 (by decide +kernel) (by decide +kernel), (by decide +kernel), (by decide +kernel)⟩)
theorem rLV_2_29_1_7 : q_okV (q_cs 2) 29 (q_cs 1) 7 1 := Or.inr (Or.inr ⟨⟨"WhirlShafts$Disc", "spins", "(I)I"⟩, "WhirlShafts$Disc", prog_4_method_5_code, 2, (some .int), q_in 830 (by decide +kernel) (by decide +kernel), q_in 777 (by decide +kernel) (by decide +kernel), q_in 775 (by decide +kernel) (by decide +kernel), q_in 778 (by decide +kernel) (by decide +kernel), q_in 779 (by decide +kernel) (by decide +kernel), q_in 800 (by decide +kernel) (by decide +kernel), (by decide +kernel), (by decide +kernel)⟩)
theorem rLV_2_29_2_11 : q_okV (q_cs 2) 29 (q_cs 2) 11 1 := Or.inl ⟨(by decide +kernel), q_in 830 (by decide +kernel) (by decide +kernel), q_in 775 (by decide +kernel) (by decide +kernel), q_in 776 (by decide +kernel) (by decide +kernel), (by decide +kernel)⟩
theorem rLV_2_29_3_15 : q_okV (q_cs 2) 29 (q_cs 3) 15 1 := Or.inr (Or.inr ⟨⟨"WhirlShafts$Disc", "spins", "(I)I"⟩, "WhirlShafts$Disc", prog_4_method_5_code, 2, (some .int), q_in 830 (by decide +kernel) (by decide +kernel), q_in 777 (by decide +kernel) (by decide +kernel), q_in 775 (by decide +kernel) (by decide +kernel), q_in 790 (by decide +kernel) (by decide +kernel), q_in 791 (by decide +kernel) (by decide +kernel), q_in 800 (by decide +kernel) (by decide +kernel), (by decide +kernel), (by decide +kernel)⟩)
theorem rLV_2_29_7_11 : q_okV (q_cs 2) 29 (q_cs 7) 11 1 := Or.inr (Or.inl ⟨⟨"WhirlShafts$Disc", "spins", "(I)I"⟩, q_in 830 (by decide +kernel) (by decide +kernel), q_in 777 (by decide +kernel) (by decide +kernel), q_in 798 (by decide +kernel) (by decide +kernel), q_in 775 (by decide +kernel) (by decide +kernel), (by decide +kernel), (by decide +kernel)⟩)
theorem rLV_2_29_9_15 : q_okV (q_cs 2) 29 (q_cs 9) 15 1 := Or.inr (Or.inr ⟨⟨"WhirlShafts$Disc", "spins", "(I)I"⟩, "WhirlShafts$Disc", prog_4_method_5_code, 2, (some .int), q_in 830 (by decide +kernel) (by decide +kernel), q_in 777 (by decide +kernel) (by decide +kernel), q_in 775 (by decide +kernel) (by decide +kernel), q_in 799 (by decide +kernel) (by decide +kernel), q_in 791 (by decide +kernel) (by decide +kernel), q_in 800 (by decide +kernel) (by decide +kernel), (by decide +kernel), (by decide +kernel)⟩)
theorem rLV_2_33_1_47 : q_okV (q_cs 2) 33 (q_cs 1) 47 1 := Or.inr (Or.inr ⟨⟨"WhirlShafts$Disc", "swings", "(I)I"⟩, "WhirlShafts$Disc", prog_4_method_6_code, 2, (some .int), q_in 845 (by decide +kernel) (by decide +kernel), q_in 805 (by decide +kernel) (by decide +kernel), q_in 803 (by decide +kernel) (by decide +kernel), q_in 806 (by decide +kernel) (by decide +kernel), q_in 807 (by decide +kernel) (by decide +kernel), q_in 829 (by decide +kernel) (by decide +kernel), (by decide +kernel), (by decide +kernel)⟩)
theorem rLV_2_33_2_12 : q_okV (q_cs 2) 33 (q_cs 2) 12 1 := Or.inl ⟨(by decide +kernel), q_in 845 (by decide +kernel) (by decide +kernel), q_in 803 (by decide +kernel) (by decide +kernel), q_in 804 (by decide +kernel) (by decide +kernel), (by decide +kernel)⟩
theorem rLV_2_33_3_12 : q_okV (q_cs 2) 33 (q_cs 3) 12 1 := Or.inr (Or.inl ⟨⟨"WhirlShafts$Disc", "swings", "(I)I"⟩, q_in 845 (by decide +kernel) (by decide +kernel), q_in 805 (by decide +kernel) (by decide +kernel), q_in 814 (by decide +kernel) (by decide +kernel), q_in 803 (by decide +kernel) (by decide +kernel), (by decide +kernel), (by decide +kernel)⟩)
theorem rLV_2_33_7_47 : q_okV (q_cs 2) 33 (q_cs 7) 47 1 := Or.inr (Or.inr ⟨⟨"WhirlShafts$Disc", "swings", "(I)I"⟩, "WhirlShafts$Disc", prog_4_method_6_code, 2, (some .int), q_in 845 (by decide +kernel) (by decide +kernel), q_in 805 (by decide +kernel) (by decide +kernel), q_in 803 (by decide +kernel) (by decide +kernel), q_in 815 (by decide +kernel) (by decide +kernel), q_in 807 (by decide +kernel) (by decide +kernel), q_in 829 (by decide +kernel) (by decide +kernel), (by decide +kernel), (by decide +kernel)⟩)
theorem rLV_2_33_9_54 : q_okV (q_cs 2) 33 (q_cs 9) 54 1 := Or.inr (Or.inr ⟨⟨"WhirlShafts$Disc", "swings", "(I)I"⟩, "WhirlShafts$Disc", prog_4_method_6_code, 2, (some .int), q_in 845 (by decide +kernel) (by decide +kernel), q_in 805 (by decide +kernel) (by decide +kernel), q_in 803 (by decide +kernel) (by decide +kernel), q_in 816 (by decide +kernel) (by decide +kernel), q_in 817 (by decide +kernel) (by decide +kernel), q_in 829 (by decide +kernel) (by decide +kernel), (by decide +kernel), (by decide +kernel)⟩)
theorem rLV_3_7_3_9 : q_okV (q_cs 3) 7 (q_cs 3) 9 1 := Or.inr (Or.inl ⟨⟨"WhirlShafts$Hub", "note", "(I)V"⟩, q_in 793 (by decide +kernel) (by decide +kernel), q_in 794 (by decide +kernel) (by decide +kernel), q_in 795 (by decide +kernel) (by decide +kernel), q_in 785 (by decide +kernel) (by decide +kernel), (by decide +kernel), (by decide +kernel)⟩)
theorem rLV_3_7_9_9 : q_okV (q_cs 3) 7 (q_cs 9) 9 1 := Or.inr (Or.inl ⟨⟨"WhirlShafts$Hub", "note", "(I)V"⟩, q_in 793 (by decide +kernel) (by decide +kernel), q_in 794 (by decide +kernel) (by decide +kernel), q_in 796 (by decide +kernel) (by decide +kernel), q_in 785 (by decide +kernel) (by decide +kernel), (by decide +kernel), (by decide +kernel)⟩)
theorem rLV_4_47_4_19 : q_okV (q_cs 4) 47 (q_cs 4) 19 1 := Or.inl ⟨(by decide +kernel), q_in 374 (by decide +kernel) (by decide +kernel), q_in 375 (by decide +kernel) (by decide +kernel), q_in 376 (by decide +kernel) (by decide +kernel), (by decide +kernel)⟩
theorem rLV_4_51_4_20 : q_okV (q_cs 4) 51 (q_cs 4) 20 1 := Or.inl ⟨(by decide +kernel), q_in 378 (by decide +kernel) (by decide +kernel), q_in 379 (by decide +kernel) (by decide +kernel), q_in 380 (by decide +kernel) (by decide +kernel), (by decide +kernel)⟩
theorem rLV_4_54_4_21 : q_okV (q_cs 4) 54 (q_cs 4) 21 2 := Or.inl ⟨(by decide +kernel), q_in 370 (by decide +kernel) (by decide +kernel), q_in 371 (by decide +kernel) (by decide +kernel), q_in 372 (by decide +kernel) (by decide +kernel), (by decide +kernel)⟩
theorem rLV_4_61_4_26 : q_okV (q_cs 4) 61 (q_cs 4) 26 1 := Or.inl ⟨(by decide +kernel), q_in 383 (by decide +kernel) (by decide +kernel), q_in 384 (by decide +kernel) (by decide +kernel), q_in 385 (by decide +kernel) (by decide +kernel), (by decide +kernel)⟩
theorem rLV_4_65_4_25 : q_okV (q_cs 4) 65 (q_cs 4) 25 1 := Or.inl ⟨(by decide +kernel), q_in 420 (by decide +kernel) (by decide +kernel), q_in 421 (by decide +kernel) (by decide +kernel), q_in 422 (by decide +kernel) (by decide +kernel), (by decide +kernel)⟩
theorem rLV_4_68_1_5 : q_okV (q_cs 4) 68 (q_cs 1) 5 2 := Or.inr (Or.inr ⟨⟨"WhirlShafts$Disc", "weighs", "(II)I"⟩, "WhirlShafts$Disc", prog_4_method_4_code, 3, (some .int), q_in 429 (by decide +kernel) (by decide +kernel), q_in 432 (by decide +kernel) (by decide +kernel), q_in 430 (by decide +kernel) (by decide +kernel), q_in 433 (by decide +kernel) (by decide +kernel), q_in 434 (by decide +kernel) (by decide +kernel), q_in 450 (by decide +kernel) (by decide +kernel), (by decide +kernel), (by decide +kernel)⟩)
theorem rLV_4_68_2_10 : q_okV (q_cs 4) 68 (q_cs 2) 10 2 := Or.inl ⟨(by decide +kernel), q_in 429 (by decide +kernel) (by decide +kernel), q_in 430 (by decide +kernel) (by decide +kernel), q_in 431 (by decide +kernel) (by decide +kernel), (by decide +kernel)⟩
theorem rLV_4_68_3_14 : q_okV (q_cs 4) 68 (q_cs 3) 14 2 := Or.inr (Or.inr ⟨⟨"WhirlShafts$Disc", "weighs", "(II)I"⟩, "WhirlShafts$Disc", prog_4_method_4_code, 3, (some .int), q_in 429 (by decide +kernel) (by decide +kernel), q_in 432 (by decide +kernel) (by decide +kernel), q_in 430 (by decide +kernel) (by decide +kernel), q_in 439 (by decide +kernel) (by decide +kernel), q_in 440 (by decide +kernel) (by decide +kernel), q_in 450 (by decide +kernel) (by decide +kernel), (by decide +kernel), (by decide +kernel)⟩)
theorem rLV_4_68_7_46 : q_okV (q_cs 4) 68 (q_cs 7) 46 2 := Or.inr (Or.inr ⟨⟨"WhirlShafts$Disc", "weighs", "(II)I"⟩, "WhirlShafts$Disc", prog_4_method_4_code, 3, (some .int), q_in 429 (by decide +kernel) (by decide +kernel), q_in 432 (by decide +kernel) (by decide +kernel), q_in 430 (by decide +kernel) (by decide +kernel), q_in 442 (by decide +kernel) (by decide +kernel), q_in 437 (by decide +kernel) (by decide +kernel), q_in 450 (by decide +kernel) (by decide +kernel), (by decide +kernel), (by decide +kernel)⟩)
theorem rLV_4_68_9_53 : q_okV (q_cs 4) 68 (q_cs 9) 53 2 := Or.inr (Or.inr ⟨⟨"WhirlShafts$Disc", "weighs", "(II)I"⟩, "WhirlShafts$Disc", prog_4_method_4_code, 3, (some .int), q_in 429 (by decide +kernel) (by decide +kernel), q_in 432 (by decide +kernel) (by decide +kernel), q_in 430 (by decide +kernel) (by decide +kernel), q_in 443 (by decide +kernel) (by decide +kernel), q_in 444 (by decide +kernel) (by decide +kernel), q_in 450 (by decide +kernel) (by decide +kernel), (by decide +kernel), (by decide +kernel)⟩)
theorem rLV_4_74_4_28 : q_okV (q_cs 4) 74 (q_cs 4) 28 1 := Or.inl ⟨(by decide +kernel), q_in 455 (by decide +kernel) (by decide +kernel), q_in 426 (by decide +kernel) (by decide +kernel), q_in 427 (by decide +kernel) (by decide +kernel), (by decide +kernel)⟩
theorem rLV_4_77_4_27 : q_okV (q_cs 4) 77 (q_cs 4) 27 1 := Or.inl ⟨(by decide +kernel), q_in 416 (by decide +kernel) (by decide +kernel), q_in 417 (by decide +kernel) (by decide +kernel), q_in 418 (by decide +kernel) (by decide +kernel), (by decide +kernel)⟩
theorem rLV_4_80_4_30 : q_okV (q_cs 4) 80 (q_cs 4) 30 1 := Or.inl ⟨(by decide +kernel), q_in 465 (by decide +kernel) (by decide +kernel), q_in 457 (by decide +kernel) (by decide +kernel), q_in 458 (by decide +kernel) (by decide +kernel), (by decide +kernel)⟩
theorem rLV_4_83_4_31 : q_okV (q_cs 4) 83 (q_cs 4) 31 1 := Or.inl ⟨(by decide +kernel), q_in 466 (by decide +kernel) (by decide +kernel), q_in 413 (by decide +kernel) (by decide +kernel), q_in 414 (by decide +kernel) (by decide +kernel), (by decide +kernel)⟩
theorem rLV_4_86_4_29 : q_okV (q_cs 4) 86 (q_cs 4) 29 1 := Or.inl ⟨(by decide +kernel), q_in 874 (by decide +kernel) (by decide +kernel), q_in 452 (by decide +kernel) (by decide +kernel), q_in 453 (by decide +kernel) (by decide +kernel), (by decide +kernel)⟩
theorem rLV_6_33_4_29 : q_okV (q_cs 6) 33 (q_cs 4) 29 1 := Or.inl ⟨(by decide +kernel), q_in 481 (by decide +kernel) (by decide +kernel), q_in 452 (by decide +kernel) (by decide +kernel), q_in 453 (by decide +kernel) (by decide +kernel), (by decide +kernel)⟩
theorem rLV_6_37_4_32 : q_okV (q_cs 6) 37 (q_cs 4) 32 1 := Or.inl ⟨(by decide +kernel), q_in 482 (by decide +kernel) (by decide +kernel), q_in 462 (by decide +kernel) (by decide +kernel), q_in 463 (by decide +kernel) (by decide +kernel), (by decide +kernel)⟩
theorem rLV_6_39_4_31 : q_okV (q_cs 6) 39 (q_cs 4) 31 1 := Or.inl ⟨(by decide +kernel), q_in 483 (by decide +kernel) (by decide +kernel), q_in 413 (by decide +kernel) (by decide +kernel), q_in 414 (by decide +kernel) (by decide +kernel), (by decide +kernel)⟩
theorem rLV_6_42_6_38 : q_okV (q_cs 6) 42 (q_cs 6) 38 4 := Or.inl ⟨(by decide +kernel), q_in 488 (by decide +kernel) (by decide +kernel), q_in 489 (by decide +kernel) (by decide +kernel), q_in 490 (by decide +kernel) (by decide +kernel), (by decide +kernel)⟩
theorem rLV_6_46_6_39 : q_okV (q_cs 6) 46 (q_cs 6) 39 3 := Or.inl ⟨(by decide +kernel), q_in 492 (by decide +kernel) (by decide +kernel), q_in 493 (by decide +kernel) (by decide +kernel), q_in 494 (by decide +kernel) (by decide +kernel), (by decide +kernel)⟩
theorem rLV_6_50_6_40 : q_okV (q_cs 6) 50 (q_cs 6) 40 1 := Or.inl ⟨(by decide +kernel), q_in 497 (by decide +kernel) (by decide +kernel), q_in 498 (by decide +kernel) (by decide +kernel), q_in 499 (by decide +kernel) (by decide +kernel), (by decide +kernel)⟩
theorem rLV_6_68_6_42 : q_okV (q_cs 6) 68 (q_cs 6) 42 0 := Or.inl ⟨(by decide +kernel), q_in 551 (by decide +kernel) (by decide +kernel), q_in 532 (by decide +kernel) (by decide +kernel), q_in 533 (by decide +kernel) (by decide +kernel), (by decide +kernel)⟩
theorem rLV_6_72_6_37 : q_okV (q_cs 6) 72 (q_cs 6) 37 2 := Or.inl ⟨(by decide +kernel), q_in 552 (by decide +kernel) (by decide +kernel), q_in 485 (by decide +kernel) (by decide +kernel), q_in 486 (by decide +kernel) (by decide +kernel), (by decide +kernel)⟩
theorem rLV_7_7_1_9 : q_okV (q_cs 7) 7 (q_cs 1) 9 1 := Or.inr (Or.inl ⟨⟨"WhirlShafts$Rim", "note", "(I)V"⟩, q_in 809 (by decide +kernel) (by decide +kernel), q_in 810 (by decide +kernel) (by decide +kernel), q_in 811 (by decide +kernel) (by decide +kernel), q_in 785 (by decide +kernel) (by decide +kernel), (by decide +kernel), (by decide +kernel)⟩)
theorem rLV_7_7_7_9 : q_okV (q_cs 7) 7 (q_cs 7) 9 1 := Or.inr (Or.inl ⟨⟨"WhirlShafts$Rim", "note", "(I)V"⟩, q_in 809 (by decide +kernel) (by decide +kernel), q_in 810 (by decide +kernel) (by decide +kernel), q_in 812 (by decide +kernel) (by decide +kernel), q_in 785 (by decide +kernel) (by decide +kernel), (by decide +kernel), (by decide +kernel)⟩)
theorem rLV_9_16_9_9 : q_okV (q_cs 9) 16 (q_cs 9) 9 1 := Or.inr (Or.inl ⟨⟨"WhirlShafts$Shell", "note", "(I)V"⟩, q_in 819 (by decide +kernel) (by decide +kernel), q_in 820 (by decide +kernel) (by decide +kernel), q_in 821 (by decide +kernel) (by decide +kernel), q_in 785 (by decide +kernel) (by decide +kernel), (by decide +kernel), (by decide +kernel)⟩)
theorem rLV_9_26_9_15 : q_okV (q_cs 9) 26 (q_cs 9) 15 1 := Or.inr (Or.inl ⟨⟨"WhirlShafts$Shell", "spins", "(I)I"⟩, q_in 825 (by decide +kernel) (by decide +kernel), q_in 826 (by decide +kernel) (by decide +kernel), q_in 828 (by decide +kernel) (by decide +kernel), q_in 791 (by decide +kernel) (by decide +kernel), (by decide +kernel), (by decide +kernel)⟩)
theorem rLV_10_33_10_60 : q_okV (q_cs 10) 33 (q_cs 10) 60 0 := Or.inl ⟨(by decide +kernel), q_in 713 (by decide +kernel) (by decide +kernel), q_in 714 (by decide +kernel) (by decide +kernel), q_in 715 (by decide +kernel) (by decide +kernel), (by decide +kernel)⟩
theorem rLV_11_99_0_0 : q_okV (q_cs 11) 99 (q_cs 0) 0 0 := Or.inl ⟨(by decide +kernel), q_in 346 (by decide +kernel) (by decide +kernel), q_in 347 (by decide +kernel) (by decide +kernel), q_in 348 (by decide +kernel) (by decide +kernel), (by decide +kernel)⟩
theorem rLV_11_102_4_17 : q_okV (q_cs 11) 102 (q_cs 4) 17 3 := Or.inl ⟨(by decide +kernel), q_in 350 (by decide +kernel) (by decide +kernel), q_in 351 (by decide +kernel) (by decide +kernel), q_in 352 (by decide +kernel) (by decide +kernel), (by decide +kernel)⟩
theorem rLV_11_112_4_22 : q_okV (q_cs 11) 112 (q_cs 4) 22 3 := Or.inl ⟨(by decide +kernel), q_in 366 (by decide +kernel) (by decide +kernel), q_in 367 (by decide +kernel) (by decide +kernel), q_in 368 (by decide +kernel) (by decide +kernel), (by decide +kernel)⟩
theorem rLV_11_115_4_23 : q_okV (q_cs 11) 115 (q_cs 4) 23 2 := Or.inl ⟨(by decide +kernel), q_in 387 (by decide +kernel) (by decide +kernel), q_in 388 (by decide +kernel) (by decide +kernel), q_in 389 (by decide +kernel) (by decide +kernel), (by decide +kernel)⟩
theorem rLV_11_119_4_24 : q_okV (q_cs 11) 119 (q_cs 4) 24 3 := Or.inl ⟨(by decide +kernel), q_in 391 (by decide +kernel) (by decide +kernel), q_in 392 (by decide +kernel) (by decide +kernel), q_in 393 (by decide +kernel) (by decide +kernel), (by decide +kernel)⟩
theorem rLV_11_123_0_1 : q_okV (q_cs 11) 123 (q_cs 0) 1 4 := Or.inl ⟨(by decide +kernel), q_in 395 (by decide +kernel) (by decide +kernel), q_in 396 (by decide +kernel) (by decide +kernel), q_in 397 (by decide +kernel) (by decide +kernel), (by decide +kernel)⟩
theorem rLV_11_127_4_21 : q_okV (q_cs 11) 127 (q_cs 4) 21 2 := Or.inl ⟨(by decide +kernel), q_in 410 (by decide +kernel) (by decide +kernel), q_in 371 (by decide +kernel) (by decide +kernel), q_in 372 (by decide +kernel) (by decide +kernel), (by decide +kernel)⟩
theorem rLV_11_130_4_20 : q_okV (q_cs 11) 130 (q_cs 4) 20 1 := Or.inl ⟨(by decide +kernel), q_in 411 (by decide +kernel) (by decide +kernel), q_in 379 (by decide +kernel) (by decide +kernel), q_in 380 (by decide +kernel) (by decide +kernel), (by decide +kernel)⟩
theorem rLV_11_133_4_31 : q_okV (q_cs 11) 133 (q_cs 4) 31 1 := Or.inl ⟨(by decide +kernel), q_in 412 (by decide +kernel) (by decide +kernel), q_in 413 (by decide +kernel) (by decide +kernel), q_in 414 (by decide +kernel) (by decide +kernel), (by decide +kernel)⟩
theorem rLV_11_137_4_19 : q_okV (q_cs 11) 137 (q_cs 4) 19 1 := Or.inl ⟨(by decide +kernel), q_in 424 (by decide +kernel) (by decide +kernel), q_in 375 (by decide +kernel) (by decide +kernel), q_in 376 (by decide +kernel) (by decide +kernel), (by decide +kernel)⟩
theorem rLV_11_143_4_28 : q_okV (q_cs 11) 143 (q_cs 4) 28 1 := Or.inl ⟨(by decide +kernel), q_in 425 (by decide +kernel) (by decide +kernel), q_in 426 (by decide +kernel) (by decide +kernel), q_in 427 (by decide +kernel) (by decide +kernel), (by decide +kernel)⟩
theorem rLV_11_146_4_29 : q_okV (q_cs 11) 146 (q_cs 4) 29 1 := Or.inl ⟨(by decide +kernel), q_in 451 (by decide +kernel) (by decide +kernel), q_in 452 (by decide +kernel) (by decide +kernel), q_in 453 (by decide +kernel) (by decide +kernel), (by decide +kernel)⟩
theorem rLV_11_149_4_30 : q_okV (q_cs 11) 149 (q_cs 4) 30 1 := Or.inl ⟨(by decide +kernel), q_in 456 (by decide +kernel) (by decide +kernel), q_in 457 (by decide +kernel) (by decide +kernel), q_in 458 (by decide +kernel) (by decide +kernel), (by decide +kernel)⟩
theorem rLV_11_152_4_27 : q_okV (q_cs 11) 152 (q_cs 4) 27 1 := Or.inl ⟨(by decide +kernel), q_in 460 (by decide +kernel) (by decide +kernel), q_in 417 (by decide +kernel) (by decide +kernel), q_in 418 (by decide +kernel) (by decide +kernel), (by decide +kernel)⟩
theorem rLV_11_155_4_32 : q_okV (q_cs 11) 155 (q_cs 4) 32 1 := Or.inl ⟨(by decide +kernel), q_in 461 (by decide +kernel) (by decide +kernel), q_in 462 (by decide +kernel) (by decide +kernel), q_in 463 (by decide +kernel) (by decide +kernel), (by decide +kernel)⟩
theorem rLV_11_161_6_36 : q_okV (q_cs 11) 161 (q_cs 6) 36 1 := Or.inl ⟨(by decide +kernel), q_in 477 (by decide +kernel) (by decide +kernel), q_in 478 (by decide +kernel) (by decide +kernel), q_in 479 (by decide +kernel) (by decide +kernel), (by decide +kernel)⟩
theorem rLV_11_165_6_37 : q_okV (q_cs 11) 165 (q_cs 6) 37 2 := Or.inl ⟨(by decide +kernel), q_in 484 (by decide +kernel) (by decide +kernel), q_in 485 (by decide +kernel) (by decide +kernel), q_in 486 (by decide +kernel) (by decide +kernel), (by decide +kernel)⟩
theorem rLV_11_168_6_40 : q_okV (q_cs 11) 168 (q_cs 6) 40 1 := Or.inl ⟨(by decide +kernel), q_in 505 (by decide +kernel) (by decide +kernel), q_in 498 (by decide +kernel) (by decide +kernel), q_in 499 (by decide +kernel) (by decide +kernel), (by decide +kernel)⟩
theorem rLV_11_171_6_38 : q_okV (q_cs 11) 171 (q_cs 6) 38 4 := Or.inl ⟨(by decide +kernel), q_in 510 (by decide +kernel) (by decide +kernel), q_in 489 (by decide +kernel) (by decide +kernel), q_in 490 (by decide +kernel) (by decide +kernel), (by decide +kernel)⟩
theorem rLV_11_175_6_41 : q_okV (q_cs 11) 175 (q_cs 6) 41 1 := Or.inl ⟨(by decide +kernel), q_in 519 (by decide +kernel) (by decide +kernel), q_in 520 (by decide +kernel) (by decide +kernel), q_in 521 (by decide +kernel) (by decide +kernel), (by decide +kernel)⟩
theorem rLV_11_178_6_42 : q_okV (q_cs 11) 178 (q_cs 6) 42 0 := Or.inl ⟨(by decide +kernel), q_in 531 (by decide +kernel) (by decide +kernel), q_in 532 (by decide +kernel) (by decide +kernel), q_in 533 (by decide +kernel) (by decide +kernel), (by decide +kernel)⟩
theorem rLV_11_185_11_112 : q_okV (q_cs 11) 185 (q_cs 11) 112 3 := Or.inl ⟨(by decide +kernel), q_in 543 (by decide +kernel) (by decide +kernel), q_in 545 (by decide +kernel) (by decide +kernel), q_in 0 (by decide +kernel) (by decide +kernel), (by decide +kernel)⟩
theorem rLV_11_193_6_45 : q_okV (q_cs 11) 193 (q_cs 6) 45 3 := Or.inl ⟨(by decide +kernel), q_in 564 (by decide +kernel) (by decide +kernel), q_in 565 (by decide +kernel) (by decide +kernel), q_in 566 (by decide +kernel) (by decide +kernel), (by decide +kernel)⟩
theorem rLV_11_196_6_43 : q_okV (q_cs 11) 196 (q_cs 6) 43 2 := Or.inl ⟨(by decide +kernel), q_in 547 (by decide +kernel) (by decide +kernel), q_in 548 (by decide +kernel) (by decide +kernel), q_in 549 (by decide +kernel) (by decide +kernel), (by decide +kernel)⟩
theorem rLV_11_199_4_16 : q_okV (q_cs 11) 199 (q_cs 4) 16 1 := Or.inl ⟨(by decide +kernel), q_in 576 (by decide +kernel) (by decide +kernel), q_in 577 (by decide +kernel) (by decide +kernel), q_in 578 (by decide +kernel) (by decide +kernel), (by decide +kernel)⟩
theorem rLV_11_202_11_114 : q_okV (q_cs 11) 202 (q_cs 11) 114 4 := Or.inl ⟨(by decide +kernel), q_in 581 (by decide +kernel) (by decide +kernel), q_in 583 (by decide +kernel) (by decide +kernel), q_in 1 (by decide +kernel) (by decide +kernel), (by decide +kernel)⟩
theorem rLV_11_205_11_113 : q_okV (q_cs 11) 205 (q_cs 11) 113 4 := Or.inl ⟨(by decide +kernel), q_in 585 (by decide +kernel) (by decide +kernel), q_in 587 (by decide +kernel) (by decide +kernel), q_in 2 (by decide +kernel) (by decide +kernel), (by decide +kernel)⟩
theorem rLV_11_214_4_18 : q_okV (q_cs 11) 214 (q_cs 4) 18 1 := Or.inl ⟨(by decide +kernel), q_in 601 (by decide +kernel) (by decide +kernel), q_in 602 (by decide +kernel) (by decide +kernel), q_in 603 (by decide +kernel) (by decide +kernel), (by decide +kernel)⟩
theorem rLV_11_221_8_48 : q_okV (q_cs 11) 221 (q_cs 8) 48 0 := Or.inl ⟨(by decide +kernel), q_in 616 (by decide +kernel) (by decide +kernel), q_in 617 (by decide +kernel) (by decide +kernel), q_in 618 (by decide +kernel) (by decide +kernel), (by decide +kernel)⟩
theorem rLV_11_228_11_117 : q_okV (q_cs 11) 228 (q_cs 11) 117 4 := Or.inl ⟨(by decide +kernel), q_in 620 (by decide +kernel) (by decide +kernel), q_in 622 (by decide +kernel) (by decide +kernel), q_in 3 (by decide +kernel) (by decide +kernel), (by decide +kernel)⟩
theorem rLV_11_232_11_116 : q_okV (q_cs 11) 232 (q_cs 11) 116 5 := Or.inl ⟨(by decide +kernel), q_in 633 (by decide +kernel) (by decide +kernel), q_in 635 (by decide +kernel) (by decide +kernel), q_in 5 (by decide +kernel) (by decide +kernel), (by decide +kernel)⟩
theorem rLV_11_240_6_44 : q_okV (q_cs 11) 240 (q_cs 6) 44 3 := Or.inl ⟨(by decide +kernel), q_in 628 (by decide +kernel) (by decide +kernel), q_in 629 (by decide +kernel) (by decide +kernel), q_in 630 (by decide +kernel) (by decide +kernel), (by decide +kernel)⟩
theorem rLV_11_247_5_34 : q_okV (q_cs 11) 247 (q_cs 5) 34 3 := Or.inl ⟨(by decide +kernel), q_in 645 (by decide +kernel) (by decide +kernel), q_in 646 (by decide +kernel) (by decide +kernel), q_in 647 (by decide +kernel) (by decide +kernel), (by decide +kernel)⟩
theorem rLV_11_258_11_64 : q_okV (q_cs 11) 258 (q_cs 11) 64 3 := Or.inl ⟨(by decide +kernel), q_in 657 (by decide +kernel) (by decide +kernel), q_in 363 (by decide +kernel) (by decide +kernel), q_in 364 (by decide +kernel) (by decide +kernel), (by decide +kernel)⟩
theorem rLV_11_264_0_3 : q_okV (q_cs 11) 264 (q_cs 0) 3 1 := Or.inl ⟨(by decide +kernel), q_in 666 (by decide +kernel) (by decide +kernel), q_in 667 (by decide +kernel) (by decide +kernel), q_in 668 (by decide +kernel) (by decide +kernel), (by decide +kernel)⟩
theorem rLV_11_271_0_4 : q_okV (q_cs 11) 271 (q_cs 0) 4 1 := Or.inl ⟨(by decide +kernel), q_in 675 (by decide +kernel) (by decide +kernel), q_in 676 (by decide +kernel) (by decide +kernel), q_in 677 (by decide +kernel) (by decide +kernel), (by decide +kernel)⟩
theorem rLV_11_277_10_55 : q_okV (q_cs 11) 277 (q_cs 10) 55 1 := Or.inl ⟨(by decide +kernel), q_in 683 (by decide +kernel) (by decide +kernel), q_in 684 (by decide +kernel) (by decide +kernel), q_in 685 (by decide +kernel) (by decide +kernel), (by decide +kernel)⟩
theorem rLV_11_279_10_58 : q_okV (q_cs 11) 279 (q_cs 10) 58 0 := Or.inl ⟨(by decide +kernel), q_in 695 (by decide +kernel) (by decide +kernel), q_in 696 (by decide +kernel) (by decide +kernel), q_in 697 (by decide +kernel) (by decide +kernel), (by decide +kernel)⟩
theorem rLV_11_282_11_118 : q_okV (q_cs 11) 282 (q_cs 11) 118 0 := Or.inl ⟨(by decide +kernel), q_in 705 (by decide +kernel) (by decide +kernel), q_in 707 (by decide +kernel) (by decide +kernel), q_in 6 (by decide +kernel) (by decide +kernel), (by decide +kernel)⟩
theorem rLV_11_285_8_49 : q_okV (q_cs 11) 285 (q_cs 8) 49 2 := Or.inl ⟨(by decide +kernel), q_in 727 (by decide +kernel) (by decide +kernel), q_in 728 (by decide +kernel) (by decide +kernel), q_in 729 (by decide +kernel) (by decide +kernel), (by decide +kernel)⟩
theorem rLV_11_289_8_50 : q_okV (q_cs 11) 289 (q_cs 8) 50 1 := Or.inl ⟨(by decide +kernel), q_in 735 (by decide +kernel) (by decide +kernel), q_in 736 (by decide +kernel) (by decide +kernel), q_in 737 (by decide +kernel) (by decide +kernel), (by decide +kernel)⟩
theorem rLV_11_291_8_52 : q_okV (q_cs 11) 291 (q_cs 8) 52 2 := Or.inl ⟨(by decide +kernel), q_in 739 (by decide +kernel) (by decide +kernel), q_in 740 (by decide +kernel) (by decide +kernel), q_in 741 (by decide +kernel) (by decide +kernel), (by decide +kernel)⟩
theorem rLV_11_300_8_51 : q_okV (q_cs 11) 300 (q_cs 8) 51 2 := Or.inl ⟨(by decide +kernel), q_in 756 (by decide +kernel) (by decide +kernel), q_in 757 (by decide +kernel) (by decide +kernel), q_in 758 (by decide +kernel) (by decide +kernel), (by decide +kernel)⟩
theorem rLV_11_313_1_8 : q_okV (q_cs 11) 313 (q_cs 1) 8 2 := Or.inr (Or.inl ⟨⟨"WhirlShafts$Disc", "begin", "(II)V"⟩, q_in 765 (by decide +kernel) (by decide +kernel), q_in 768 (by decide +kernel) (by decide +kernel), q_in 769 (by decide +kernel) (by decide +kernel), q_in 766 (by decide +kernel) (by decide +kernel), (by decide +kernel), (by decide +kernel)⟩)
theorem rLV_11_313_2_8 : q_okV (q_cs 11) 313 (q_cs 2) 8 2 := Or.inl ⟨(by decide +kernel), q_in 765 (by decide +kernel) (by decide +kernel), q_in 766 (by decide +kernel) (by decide +kernel), q_in 767 (by decide +kernel) (by decide +kernel), (by decide +kernel)⟩
theorem rLV_11_313_3_8 : q_okV (q_cs 11) 313 (q_cs 3) 8 2 := Or.inr (Or.inl ⟨⟨"WhirlShafts$Disc", "begin", "(II)V"⟩, q_in 765 (by decide +kernel) (by decide +kernel), q_in 768 (by decide +kernel) (by decide +kernel), q_in 770 (by decide +kernel) (by decide +kernel), q_in 766 (by decide +kernel) (by decide +kernel), (by decide +kernel), (by decide +kernel)⟩)
theorem rLV_11_313_7_8 : q_okV (q_cs 11) 313 (q_cs 7) 8 2 := Or.inr (Or.inl ⟨⟨"WhirlShafts$Disc", "begin", "(II)V"⟩, q_in 765 (by decide +kernel) (by decide +kernel), q_in 768 (by decide +kernel) (by decide +kernel), q_in 771 (by decide +kernel) (by decide +kernel), q_in 766 (by decide +kernel) (by decide +kernel), (by decide +kernel), (by decide +kernel)⟩)
theorem rLV_11_313_9_8 : q_okV (q_cs 11) 313 (q_cs 9) 8 2 := Or.inr (Or.inl ⟨⟨"WhirlShafts$Disc", "begin", "(II)V"⟩, q_in 765 (by decide +kernel) (by decide +kernel), q_in 768 (by decide +kernel) (by decide +kernel), q_in 772 (by decide +kernel) (by decide +kernel), q_in 766 (by decide +kernel) (by decide +kernel), (by decide +kernel), (by decide +kernel)⟩)
theorem rLV_11_316_1_7 : q_okV (q_cs 11) 316 (q_cs 1) 7 1 := Or.inr (Or.inr ⟨⟨"WhirlShafts$Disc", "spins", "(I)I"⟩, "WhirlShafts$Disc", prog_4_method_5_code, 2, (some .int), q_in 774 (by decide +kernel) (by decide +kernel), q_in 777 (by decide +kernel) (by decide +kernel), q_in 775 (by decide +kernel) (by decide +kernel), q_in 778 (by decide +kernel) (by decide +kernel), q_in 779 (by decide +kernel) (by decide +kernel), q_in 800 (by decide +kernel) (by decide +kernel), (by decide +kernel), (by decide +kernel)⟩)
theorem rLV_11_316_2_11 : q_okV (q_cs 11) 316 (q_cs 2) 11 1 := Or.inl ⟨(by decide +kernel), q_in 774 (by decide +kernel) (by decide +kernel), q_in 775 (by decide +kernel) (by decide +kernel), q_in 776 (by decide +kernel) (by decide +kernel), (by decide +kernel)⟩
theorem rLV_11_316_3_15 : q_okV (q_cs 11) 316 (q_cs 3) 15 1 := Or.inr (Or.inr ⟨⟨"WhirlShafts$Disc", "spins", "(I)I"⟩, "WhirlShafts$Disc", prog_4_method_5_code, 2, (some .int), q_in 774 (by decide +kernel) (by decide +kernel), q_in 777 (by decide +kernel) (by decide +kernel), q_in 775 (by decide +kernel) (by decide +kernel), q_in 790 (by decide +kernel) (by decide +kernel), q_in 791 (by decide +kernel) (by decide +kernel), q_in 800 (by decide +kernel) (by decide +kernel), (by decide +kernel), (by decide +kernel)⟩)
theorem rLV_11_316_7_11 : q_okV (q_cs 11) 316 (q_cs 7) 11 1 := Or.inr (Or.inl ⟨⟨"WhirlShafts$Disc", "spins", "(I)I"⟩, q_in 774 (by decide +kernel) (by decide +kernel), q_in 777 (by decide +kernel) (by decide +kernel), q_in 798 (by decide +kernel) (by decide +kernel), q_in 775 (by decide +kernel) (by decide +kernel), (by decide +kernel), (by decide +kernel)⟩)
theorem rLV_11_316_9_15 : q_okV (q_cs 11) 316 (q_cs 9) 15 1 := Or.inr (Or.inr ⟨⟨"WhirlShafts$Disc", "spins", "(I)I"⟩, "WhirlShafts$Disc", prog_4_method_5_code, 2, (some .int), q_in 774 (by decide +kernel) (by decide +kernel), q_in 777 (by decide +kernel) (by decide +kernel), q_in 775 (by decide +kernel) (by decide +kernel), q_in 799 (by decide +kernel) (by decide +kernel), q_in 791 (by decide +kernel) (by decide +kernel), q_in 800 (by decide +kernel) (by decide +kernel), (by decide +kernel), (by decide +kernel)⟩)
theorem rLV_11_319_1_47 : q_okV (q_cs 11) 319 (q_cs 1) 47 1 := Or.inr (Or.inr ⟨⟨"WhirlShafts$Disc", "swings", "(I)I"⟩, "WhirlShafts$Disc", prog_4_method_6_code, 2, (some .int), q_in 802 (by decide +kernel) (by decide +kernel), q_in 805 (by decide +kernel) (by decide +kernel), q_in 803 (by decide +kernel) (by decide +kernel), q_in 806 (by decide +kernel) (by decide +kernel), q_in 807 (by decide +kernel) (by decide +kernel), q_in 829 (by decide +kernel) (by decide +kernel), (by decide +kernel), (by decide +kernel)⟩)
theorem rLV_11_319_2_12 : q_okV (q_cs 11) 319 (q_cs 2) 12 1 := Or.inl ⟨(by decide +kernel), q_in 802 (by decide +kernel) (by decide +kernel), q_in 803 (by decide +kernel) (by decide +kernel), q_in 804 (by decide +kernel) (by decide +kernel), (by decide +kernel)⟩
theorem rLV_11_319_3_12 : q_okV (q_cs 11) 319 (q_cs 3) 12 1 := Or.inr (Or.inl ⟨⟨"WhirlShafts$Disc", "swings", "(I)I"⟩, q_in 802 (by decide +kernel) (by decide +kernel), q_in 805 (by decide +kernel) (by decide +kernel), q_in 814 (by decide +kernel) (by decide +kernel), q_in 803 (by decide +kernel) (by decide +kernel), (by decide +kernel), (by decide +kernel)⟩)
theorem rLV_11_319_7_47 : q_okV (q_cs 11) 319 (q_cs 7) 47 1 := Or.inr (Or.inr ⟨⟨"WhirlShafts$Disc", "swings", "(I)I"⟩, "WhirlShafts$Disc", prog_4_method_6_code, 2, (some .int), q_in 802 (by decide +kernel) (by decide +kernel), q_in 805 (by decide +kernel) (by decide +kernel), q_in 803 (by decide +kernel) (by decide +kernel), q_in 815 (by decide +kernel) (by decide +kernel), q_in 807 (by decide +kernel) (by decide +kernel), q_in 829 (by decide +kernel) (by decide +kernel), (by decide +kernel), (by decide +kernel)⟩)
theorem rLV_11_319_9_54 : q_okV (q_cs 11) 319 (q_cs 9) 54 1 := Or.inr (Or.inr ⟨⟨"WhirlShafts$Disc", "swings", "(I)I"⟩, "WhirlShafts$Disc", prog_4_method_6_code, 2, (some .int), q_in 802 (by decide +kernel) (by decide +kernel), q_in 805 (by decide +kernel) (by decide +kernel), q_in 803 (by decide +kernel) (by decide +kernel), q_in 816 (by decide +kernel) (by decide +kernel), q_in 817 (by decide +kernel) (by decide +kernel), q_in 829 (by decide +kernel) (by decide +kernel), (by decide +kernel), (by decide +kernel)⟩)
theorem rLV_11_322_1_6 : q_okV (q_cs 11) 322 (q_cs 1) 6 1 := Or.inr (Or.inr ⟨⟨"WhirlShafts$Disc", "tells", "(I)I"⟩, "WhirlShafts$Disc", prog_4_method_7_code, 2, (some .int), q_in 831 (by decide +kernel) (by decide +kernel), q_in 834 (by decide +kernel) (by decide +kernel), q_in 832 (by decide +kernel) (by decide +kernel), q_in 835 (by decide +kernel) (by decide +kernel), q_in 836 (by decide +kernel) (by decide +kernel), q_in 844 (by decide +kernel) (by decide +kernel), (by decide +kernel), (by decide +kernel)⟩)
theorem rLV_11_322_2_13 : q_okV (q_cs 11) 322 (q_cs 2) 13 1 := Or.inl ⟨(by decide +kernel), q_in 831 (by decide +kernel) (by decide +kernel), q_in 832 (by decide +kernel) (by decide +kernel), q_in 833 (by decide +kernel) (by decide +kernel), (by decide +kernel)⟩
theorem rLV_11_322_3_13 : q_okV (q_cs 11) 322 (q_cs 3) 13 1 := Or.inr (Or.inl ⟨⟨"WhirlShafts$Disc", "tells", "(I)I"⟩, q_in 831 (by decide +kernel) (by decide +kernel), q_in 834 (by decide +kernel) (by decide +kernel), q_in 841 (by decide +kernel) (by decide +kernel), q_in 832 (by decide +kernel) (by decide +kernel), (by decide +kernel), (by decide +kernel)⟩)
theorem rLV_11_322_7_13 : q_okV (q_cs 11) 322 (q_cs 7) 13 1 := Or.inr (Or.inl ⟨⟨"WhirlShafts$Disc", "tells", "(I)I"⟩, q_in 831 (by decide +kernel) (by decide +kernel), q_in 834 (by decide +kernel) (by decide +kernel), q_in 842 (by decide +kernel) (by decide +kernel), q_in 832 (by decide +kernel) (by decide +kernel), (by decide +kernel), (by decide +kernel)⟩)
theorem rLV_11_322_9_13 : q_okV (q_cs 11) 322 (q_cs 9) 13 1 := Or.inr (Or.inl ⟨⟨"WhirlShafts$Disc", "tells", "(I)I"⟩, q_in 831 (by decide +kernel) (by decide +kernel), q_in 834 (by decide +kernel) (by decide +kernel), q_in 843 (by decide +kernel) (by decide +kernel), q_in 832 (by decide +kernel) (by decide +kernel), (by decide +kernel), (by decide +kernel)⟩)
theorem rLV_11_334_5_35 : q_okV (q_cs 11) 334 (q_cs 5) 35 1 := Or.inl ⟨(by decide +kernel), q_in 861 (by decide +kernel) (by decide +kernel), q_in 862 (by decide +kernel) (by decide +kernel), q_in 863 (by decide +kernel) (by decide +kernel), (by decide +kernel)⟩
theorem rLV_11_341_4_33 : q_okV (q_cs 11) 341 (q_cs 4) 33 1 := Or.inl ⟨(by decide +kernel), q_in 870 (by decide +kernel) (by decide +kernel), q_in 871 (by decide +kernel) (by decide +kernel), q_in 872 (by decide +kernel) (by decide +kernel), (by decide +kernel)⟩
theorem rLV_11_345_4_25 : q_okV (q_cs 11) 345 (q_cs 4) 25 1 := Or.inl ⟨(by decide +kernel), q_in 883 (by decide +kernel) (by decide +kernel), q_in 421 (by decide +kernel) (by decide +kernel), q_in 422 (by decide +kernel) (by decide +kernel), (by decide +kernel)⟩
theorem rLV_11_348_11_111 : q_okV (q_cs 11) 348 (q_cs 11) 111 0 := Or.inl ⟨(by decide +kernel), q_in 884 (by decide +kernel) (by decide +kernel), q_in 886 (by decide +kernel) (by decide +kernel), q_in 8 (by decide +kernel) (by decide +kernel), (by decide +kernel)⟩
theorem rLV_11_357_11_115 : q_okV (q_cs 11) 357 (q_cs 11) 115 3 := Or.inl ⟨(by decide +kernel), q_in 624 (by decide +kernel) (by decide +kernel), q_in 626 (by decide +kernel) (by decide +kernel), q_in 4 (by decide +kernel) (by decide +kernel), (by decide +kernel)⟩
theorem rLV_11_364_10_59 : q_okV (q_cs 11) 364 (q_cs 10) 59 0 := Or.inl ⟨(by decide +kernel), q_in 709 (by decide +kernel) (by decide +kernel), q_in 710 (by decide +kernel) (by decide +kernel), q_in 711 (by decide +kernel) (by decide +kernel), (by decide +kernel)⟩
theorem rLV_11_367_11_119 : q_okV (q_cs 11) 367 (q_cs 11) 119 1 := Or.inl ⟨(by decide +kernel), q_in 717 (by decide +kernel) (by decide +kernel), q_in 719 (by decide +kernel) (by decide +kernel), q_in 7 (by decide +kernel) (by decide +kernel), (by decide +kernel)⟩
theorem rLV_11_373_11_61 : q_okV (q_cs 11) 373 (q_cs 11) 61 3 := Or.inl ⟨(by decide +kernel), q_in 721 (by decide +kernel) (by decide +kernel), q_in 333 (by decide +kernel) (by decide +kernel), q_in 334 (by decide +kernel) (by decide +kernel), (by decide +kernel)⟩
theorem rLV_11_376_11_62 : q_okV (q_cs 11) 376 (q_cs 11) 62 0 := Or.inl ⟨(by decide +kernel), q_in 722 (by decide +kernel) (by decide +kernel), q_in 355 (by decide +kernel) (by decide +kernel), q_in 356 (by decide +kernel) (by decide +kernel), (by decide +kernel)⟩
theorem rLV_12_133_12_125 : q_okV (q_cs 12) 133 (q_cs 12) 125 1 := Or.inl ⟨(by decide +kernel), q_in 1113 (by decide +kernel) (by decide +kernel), q_in 1115 (by decide +kernel) (by decide +kernel), q_in 19 (by decide +kernel) (by decide +kernel), (by decide +kernel)⟩
theorem rLV_12_144_12_128 : q_okV (q_cs 12) 144 (q_cs 12) 128 1 := Or.inl ⟨(by decide +kernel), q_in 1136 (by decide +kernel) (by decide +kernel), q_in 1138 (by decide +kernel) (by decide +kernel), q_in 22 (by decide +kernel) (by decide +kernel), (by decide +kernel)⟩
theorem rLV_12_151_12_130 : q_okV (q_cs 12) 151 (q_cs 12) 130 4 := Or.inl ⟨(by decide +kernel), q_in 1131 (by decide +kernel) (by decide +kernel), q_in 1133 (by decide +kernel) (by decide +kernel), q_in 21 (by decide +kernel) (by decide +kernel), (by decide +kernel)⟩
theorem rLV_12_155_12_126 : q_okV (q_cs 12) 155 (q_cs 12) 126 0 := Or.inl ⟨(by decide +kernel), q_in 1109 (by decide +kernel) (by decide +kernel), q_in 1111 (by decide +kernel) (by decide +kernel), q_in 18 (by decide +kernel) (by decide +kernel), (by decide +kernel)⟩
theorem rLV_12_158_12_132 : q_okV (q_cs 12) 158 (q_cs 12) 132 0 := Or.inl ⟨(by decide +kernel), q_in 1164 (by decide +kernel) (by decide +kernel), q_in 1166 (by decide +kernel) (by decide +kernel), q_in 23 (by decide +kernel) (by decide +kernel), (by decide +kernel)⟩
theorem rLV_12_162_12_131 : q_okV (q_cs 12) 162 (q_cs 12) 131 2 := Or.inl ⟨(by decide +kernel), q_in 1127 (by decide +kernel) (by decide +kernel), q_in 1129 (by decide +kernel) (by decide +kernel), q_in 20 (by decide +kernel) (by decide +kernel), (by decide +kernel)⟩
theorem rLV_12_172_12_134 : q_okV (q_cs 12) 172 (q_cs 12) 134 0 := Or.inl ⟨(by decide +kernel), q_in 1043 (by decide +kernel) (by decide +kernel), q_in 1045 (by decide +kernel) (by decide +kernel), q_in 9 (by decide +kernel) (by decide +kernel), (by decide +kernel)⟩
theorem rLV_12_175_12_121 : q_okV (q_cs 12) 175 (q_cs 12) 121 1 := Or.inl ⟨(by decide +kernel), q_in 1067 (by decide +kernel) (by decide +kernel), q_in 1069 (by decide +kernel) (by decide +kernel), q_in 12 (by decide +kernel) (by decide +kernel), (by decide +kernel)⟩
theorem rLV_12_178_12_122 : q_okV (q_cs 12) 178 (q_cs 12) 122 1 := Or.inl ⟨(by decide +kernel), q_in 1071 (by decide +kernel) (by decide +kernel), q_in 1073 (by decide +kernel) (by decide +kernel), q_in 13 (by decide +kernel) (by decide +kernel), (by decide +kernel)⟩
theorem rLV_12_181_12_140 : q_okV (q_cs 12) 181 (q_cs 12) 140 2 := Or.inl ⟨(by decide +kernel), q_in 1063 (by decide +kernel) (by decide +kernel), q_in 1065 (by decide +kernel) (by decide +kernel), q_in 11 (by decide +kernel) (by decide +kernel), (by decide +kernel)⟩
theorem rLV_12_191_12_127 : q_okV (q_cs 12) 191 (q_cs 12) 127 0 := Or.inl ⟨(by decide +kernel), q_in 1081 (by decide +kernel) (by decide +kernel), q_in 1083 (by decide +kernel) (by decide +kernel), q_in 14 (by decide +kernel) (by decide +kernel), (by decide +kernel)⟩
theorem rLV_12_194_12_143 : q_okV (q_cs 12) 194 (q_cs 12) 143 3 := Or.inl ⟨(by decide +kernel), q_in 1059 (by decide +kernel) (by decide +kernel), q_in 1061 (by decide +kernel) (by decide +kernel), q_in 10 (by decide +kernel) (by decide +kernel), (by decide +kernel)⟩
theorem rLV_12_198_12_138 : q_okV (q_cs 12) 198 (q_cs 12) 138 2 := Or.inl ⟨(by decide +kernel), q_in 1085 (by decide +kernel) (by decide +kernel), q_in 1087 (by decide +kernel) (by decide +kernel), q_in 15 (by decide +kernel) (by decide +kernel), (by decide +kernel)⟩
theorem rLV_12_201_12_144 : q_okV (q_cs 12) 201 (q_cs 12) 144 4 := Or.inl ⟨(by decide +kernel), q_in 1089 (by decide +kernel) (by decide +kernel), q_in 1091 (by decide +kernel) (by decide +kernel), q_in 16 (by decide +kernel) (by decide +kernel), (by decide +kernel)⟩
theorem rLV_12_205_12_139 : q_okV (q_cs 12) 205 (q_cs 12) 139 3 := Or.inl ⟨(by decide +kernel), q_in 1093 (by decide +kernel) (by decide +kernel), q_in 1095 (by decide +kernel) (by decide +kernel), q_in 17 (by decide +kernel) (by decide +kernel), (by decide +kernel)⟩
theorem rLV_12_212_12_155 : q_okV (q_cs 12) 212 (q_cs 12) 155 2 := Or.inl ⟨(by decide +kernel), q_in 1172 (by decide +kernel) (by decide +kernel), q_in 1174 (by decide +kernel) (by decide +kernel), q_in 24 (by decide +kernel) (by decide +kernel), (by decide +kernel)⟩
theorem rLV_12_215_12_133 : q_okV (q_cs 12) 215 (q_cs 12) 133 2 := Or.inl ⟨(by decide +kernel), q_in 1176 (by decide +kernel) (by decide +kernel), q_in 1178 (by decide +kernel) (by decide +kernel), q_in 25 (by decide +kernel) (by decide +kernel), (by decide +kernel)⟩
theorem rLV_12_221_12_159 : q_okV (q_cs 12) 221 (q_cs 12) 159 3 := Or.inl ⟨(by decide +kernel), q_in 1191 (by decide +kernel) (by decide +kernel), q_in 1193 (by decide +kernel) (by decide +kernel), q_in 26 (by decide +kernel) (by decide +kernel), (by decide +kernel)⟩
theorem rLV_12_224_12_165 : q_okV (q_cs 12) 224 (q_cs 12) 165 1 := Or.inl ⟨(by decide +kernel), q_in 1215 (by decide +kernel) (by decide +kernel), q_in 1217 (by decide +kernel) (by decide +kernel), q_in 27 (by decide +kernel) (by decide +kernel), (by decide +kernel)⟩
theorem rLV_12_237_12_177 : q_okV (q_cs 12) 237 (q_cs 12) 177 4 := Or.inl ⟨(by decide +kernel), q_in 1254 (by decide +kernel) (by decide +kernel), q_in 1256 (by decide +kernel) (by decide +kernel), q_in 28 (by decide +kernel) (by decide +kernel), (by decide +kernel)⟩
theorem rLV_12_240_12_178 : q_okV (q_cs 12) 240 (q_cs 12) 178 5 := Or.inl ⟨(by decide +kernel), q_in 1262 (by decide +kernel) (by decide +kernel), q_in 1264 (by decide +kernel) (by decide +kernel), q_in 30 (by decide +kernel) (by decide +kernel), (by decide +kernel)⟩
theorem rLV_12_244_12_175 : q_okV (q_cs 12) 244 (q_cs 12) 175 3 := Or.inl ⟨(by decide +kernel), q_in 1258 (by decide +kernel) (by decide +kernel), q_in 1260 (by decide +kernel) (by decide +kernel), q_in 29 (by decide +kernel) (by decide +kernel), (by decide +kernel)⟩
theorem rLV_12_250_12_202 : q_okV (q_cs 12) 250 (q_cs 12) 202 2 := Or.inl ⟨(by decide +kernel), q_in 1278 (by decide +kernel) (by decide +kernel), q_in 1280 (by decide +kernel) (by decide +kernel), q_in 31 (by decide +kernel) (by decide +kernel), (by decide +kernel)⟩
theorem rLV_12_254_12_145 : q_okV (q_cs 12) 254 (q_cs 12) 145 3 := Or.inl ⟨(by decide +kernel), q_in 1294 (by decide +kernel) (by decide +kernel), q_in 1056 (by decide +kernel) (by decide +kernel), q_in 1057 (by decide +kernel) (by decide +kernel), (by decide +kernel)⟩
theorem rLV_12_263_12_186 : q_okV (q_cs 12) 263 (q_cs 12) 186 0 := Or.inl ⟨(by decide +kernel), q_in 1319 (by decide +kernel) (by decide +kernel), q_in 1321 (by decide +kernel) (by decide +kernel), q_in 36 (by decide +kernel) (by decide +kernel), (by decide +kernel)⟩
theorem rLV_12_272_12_188 : q_okV (q_cs 12) 272 (q_cs 12) 188 0 := Or.inl ⟨(by decide +kernel), q_in 1326 (by decide +kernel) (by decide +kernel), q_in 1328 (by decide +kernel) (by decide +kernel), q_in 37 (by decide +kernel) (by decide +kernel), (by decide +kernel)⟩
theorem rLV_12_275_12_189 : q_okV (q_cs 12) 275 (q_cs 12) 189 0 := Or.inl ⟨(by decide +kernel), q_in 1315 (by decide +kernel) (by decide +kernel), q_in 1317 (by decide +kernel) (by decide +kernel), q_in 35 (by decide +kernel) (by decide +kernel), (by decide +kernel)⟩
theorem rLV_12_279_12_135 : q_okV (q_cs 12) 279 (q_cs 12) 135 3 := Or.inl ⟨(by decide +kernel), q_in 1334 (by decide +kernel) (by decide +kernel), q_in 1037 (by decide +kernel) (by decide +kernel), q_in 1038 (by decide +kernel) (by decide +kernel), (by decide +kernel)⟩
theorem rLV_12_282_12_136 : q_okV (q_cs 12) 282 (q_cs 12) 136 0 := Or.inl ⟨(by decide +kernel), q_in 1335 (by decide +kernel) (by decide +kernel), q_in 1048 (by decide +kernel) (by decide +kernel), q_in 1049 (by decide +kernel) (by decide +kernel), (by decide +kernel)⟩
theorem rLV_12_285_12_190 : q_okV (q_cs 12) 285 (q_cs 12) 190 0 := Or.inl ⟨(by decide +kernel), q_in 1311 (by decide +kernel) (by decide +kernel), q_in 1313 (by decide +kernel) (by decide +kernel), q_in 34 (by decide +kernel) (by decide +kernel), (by decide +kernel)⟩
theorem rLV_12_288_12_191 : q_okV (q_cs 12) 288 (q_cs 12) 191 1 := Or.inl ⟨(by decide +kernel), q_in 1330 (by decide +kernel) (by decide +kernel), q_in 1332 (by decide +kernel) (by decide +kernel), q_in 38 (by decide +kernel) (by decide +kernel), (by decide +kernel)⟩
theorem rLV_12_294_12_193 : q_okV (q_cs 12) 294 (q_cs 12) 193 1 := Or.inl ⟨(by decide +kernel), q_in 1344 (by decide +kernel) (by decide +kernel), q_in 1346 (by decide +kernel) (by decide +kernel), q_in 40 (by decide +kernel) (by decide +kernel), (by decide +kernel)⟩
theorem rLV_12_297_12_194 : q_okV (q_cs 12) 297 (q_cs 12) 194 2 := Or.inl ⟨(by decide +kernel), q_in 1340 (by decide +kernel) (by decide +kernel), q_in 1342 (by decide +kernel) (by decide +kernel), q_in 39 (by decide +kernel) (by decide +kernel), (by decide +kernel)⟩
theorem rLV_12_300_12_195 : q_okV (q_cs 12) 300 (q_cs 12) 195 2 := Or.inl ⟨(by decide +kernel), q_in 1348 (by decide +kernel) (by decide +kernel), q_in 1350 (by decide +kernel) (by decide +kernel), q_in 41 (by decide +kernel) (by decide +kernel), (by decide +kernel)⟩
theorem rLV_12_303_12_196 : q_okV (q_cs 12) 303 (q_cs 12) 196 2 := Or.inl ⟨(by decide +kernel), q_in 1352 (by decide +kernel) (by decide +kernel), q_in 1354 (by decide +kernel) (by decide +kernel), q_in 42 (by decide +kernel) (by decide +kernel), (by decide +kernel)⟩
theorem rLV_12_313_12_200 : q_okV (q_cs 12) 313 (q_cs 12) 200 1 := Or.inl ⟨(by decide +kernel), q_in 1282 (by decide +kernel) (by decide +kernel), q_in 1284 (by decide +kernel) (by decide +kernel), q_in 32 (by decide +kernel) (by decide +kernel), (by decide +kernel)⟩
theorem rLV_12_316_12_201 : q_okV (q_cs 12) 316 (q_cs 12) 201 1 := Or.inl ⟨(by decide +kernel), q_in 1286 (by decide +kernel) (by decide +kernel), q_in 1288 (by decide +kernel) (by decide +kernel), q_in 33 (by decide +kernel) (by decide +kernel), (by decide +kernel)⟩
theorem rLV_12_320_12_206 : q_okV (q_cs 12) 320 (q_cs 12) 206 0 := Or.inl ⟨(by decide +kernel), q_in 1380 (by decide +kernel) (by decide +kernel), q_in 1382 (by decide +kernel) (by decide +kernel), q_in 43 (by decide +kernel) (by decide +kernel), (by decide +kernel)⟩
theorem rLV_14_13_11_61 : q_okV (q_cs 14) 13 (q_cs 11) 61 3 := Or.inl ⟨(by decide +kernel), q_in 332 (by decide +kernel) (by decide +kernel), q_in 333 (by decide +kernel) (by decide +kernel), q_in 334 (by decide +kernel) (by decide +kernel), (by decide +kernel)⟩
theorem rLV_14_17_12_135 : q_okV (q_cs 14) 17 (q_cs 12) 135 3 := Or.inl ⟨(by decide +kernel), q_in 1036 (by decide +kernel) (by decide +kernel), q_in 1037 (by decide +kernel) (by decide +kernel), q_in 1038 (by decide +kernel) (by decide +kernel), (by decide +kernel)⟩
theorem rLV_14_18_11_62 : q_okV (q_cs 14) 18 (q_cs 11) 62 0 := Or.inl ⟨(by decide +kernel), q_in 354 (by decide +kernel) (by decide +kernel), q_in 355 (by decide +kernel) (by decide +kernel), q_in 356 (by decide +kernel) (by decide +kernel), (by decide +kernel)⟩
theorem rLV_14_22_12_136 : q_okV (q_cs 14) 22 (q_cs 12) 136 0 := Or.inl ⟨(by decide +kernel), q_in 1047 (by decide +kernel) (by decide +kernel), q_in 1048 (by decide +kernel) (by decide +kernel), q_in 1049 (by decide +kernel) (by decide +kernel), (by decide +kernel)⟩
theorem rLV_14_23_11_63 : q_okV (q_cs 14) 23 (q_cs 11) 63 0 := Or.inl ⟨(by decide +kernel), q_in 358 (by decide +kernel) (by decide +kernel), q_in 359 (by decide +kernel) (by decide +kernel), q_in 360 (by decide +kernel) (by decide +kernel), (by decide +kernel)⟩
theorem rLV_14_26_12_137 : q_okV (q_cs 14) 26 (q_cs 12) 137 0 := Or.inl ⟨(by decide +kernel), q_in 1051 (by decide +kernel) (by decide +kernel), q_in 1052 (by decide +kernel) (by decide +kernel), q_in 1053 (by decide +kernel) (by decide +kernel), (by decide +kernel)⟩
theorem rLV_14_27_11_64 : q_okV (q_cs 14) 27 (q_cs 11) 64 3 := Or.inl ⟨(by decide +kernel), q_in 362 (by decide +kernel) (by decide +kernel), q_in 363 (by decide +kernel) (by decide +kernel), q_in 364 (by decide +kernel) (by decide +kernel), (by decide +kernel)⟩
theorem rLV_14_30_12_145 : q_okV (q_cs 14) 30 (q_cs 12) 145 3 := Or.inl ⟨(by decide +kernel), q_in 1055 (by decide +kernel) (by decide +kernel), q_in 1056 (by decide +kernel) (by decide +kernel), q_in 1057 (by decide +kernel) (by decide +kernel), (by decide +kernel)⟩
theorem rLV_14_31_11_65 : q_okV (q_cs 14) 31 (q_cs 11) 65 2 := Or.inl ⟨(by decide +kernel), q_in 406 (by decide +kernel) (by decide +kernel), q_in 407 (by decide +kernel) (by decide +kernel), q_in 408 (by decide +kernel) (by decide +kernel), (by decide +kernel)⟩
theorem rLV_14_35_12_148 : q_okV (q_cs 14) 35 (q_cs 12) 148 2 := Or.inl ⟨(by decide +kernel), q_in 1105 (by decide +kernel) (by decide +kernel), q_in 1106 (by decide +kernel) (by decide +kernel), q_in 1107 (by decide +kernel) (by decide +kernel), (by decide +kernel)⟩
theorem rLV_14_36_11_66 : q_okV (q_cs 14) 36 (q_cs 11) 66 2 := Or.inl ⟨(by decide +kernel), q_in 467 (by decide +kernel) (by decide +kernel), q_in 468 (by decide +kernel) (by decide +kernel), q_in 469 (by decide +kernel) (by decide +kernel), (by decide +kernel)⟩
theorem rLV_14_39_12_149 : q_okV (q_cs 14) 39 (q_cs 12) 149 2 := Or.inl ⟨(by decide +kernel), q_in 1117 (by decide +kernel) (by decide +kernel), q_in 1118 (by decide +kernel) (by decide +kernel), q_in 1119 (by decide +kernel) (by decide +kernel), (by decide +kernel)⟩
theorem rLV_14_40_11_67 : q_okV (q_cs 14) 40 (q_cs 11) 67 2 := Or.inl ⟨(by decide +kernel), q_in 501 (by decide +kernel) (by decide +kernel), q_in 502 (by decide +kernel) (by decide +kernel), q_in 503 (by decide +kernel) (by decide +kernel), (by decide +kernel)⟩
theorem rLV_14_43_12_150 : q_okV (q_cs 14) 43 (q_cs 12) 150 2 := Or.inl ⟨(by decide +kernel), q_in 1144 (by decide +kernel) (by decide +kernel), q_in 1145 (by decide +kernel) (by decide +kernel), q_in 1146 (by decide +kernel) (by decide +kernel), (by decide +kernel)⟩
theorem rLV_14_44_11_68 : q_okV (q_cs 14) 44 (q_cs 11) 68 3 := Or.inl ⟨(by decide +kernel), q_in 506 (by decide +kernel) (by decide +kernel), q_in 507 (by decide +kernel) (by decide +kernel), q_in 508 (by decide +kernel) (by decide +kernel), (by decide +kernel)⟩
theorem rLV_14_47_12_151 : q_okV (q_cs 14) 47 (q_cs 12) 151 3 := Or.inl ⟨(by decide +kernel), q_in 1148 (by decide +kernel) (by decide +kernel), q_in 1149 (by decide +kernel) (by decide +kernel), q_in 1150 (by decide +kernel) (by decide +kernel), (by decide +kernel)⟩
theorem rLV_14_48_11_69 : q_okV (q_cs 14) 48 (q_cs 11) 69 2 := Or.inl ⟨(by decide +kernel), q_in 511 (by decide +kernel) (by decide +kernel), q_in 512 (by decide +kernel) (by decide +kernel), q_in 513 (by decide +kernel) (by decide +kernel), (by decide +kernel)⟩
theorem rLV_14_51_12_152 : q_okV (q_cs 14) 51 (q_cs 12) 152 2 := Or.inl ⟨(by decide +kernel), q_in 1152 (by decide +kernel) (by decide +kernel), q_in 1153 (by decide +kernel) (by decide +kernel), q_in 1154 (by decide +kernel) (by decide +kernel), (by decide +kernel)⟩
theorem rLV_14_52_11_70 : q_okV (q_cs 14) 52 (q_cs 11) 70 3 := Or.inl ⟨(by decide +kernel), q_in 515 (by decide +kernel) (by decide +kernel), q_in 516 (by decide +kernel) (by decide +kernel), q_in 517 (by decide +kernel) (by decide +kernel), (by decide +kernel)⟩
theorem rLV_14_55_12_153 : q_okV (q_cs 14) 55 (q_cs 12) 153 3 := Or.inl ⟨(by decide +kernel), q_in 1156 (by decide +kernel) (by decide +kernel), q_in 1157 (by decide +kernel) (by decide +kernel), q_in 1158 (by decide +kernel) (by decide +kernel), (by decide +kernel)⟩
theorem rLV_14_56_11_71 : q_okV (q_cs 14) 56 (q_cs 11) 71 0 := Or.inl ⟨(by decide +kernel), q_in 527 (by decide +kernel) (by decide +kernel), q_in 528 (by decide +kernel) (by decide +kernel), q_in 529 (by decide +kernel) (by decide +kernel), (by decide +kernel)⟩
theorem rLV_14_59_12_154 : q_okV (q_cs 14) 59 (q_cs 12) 154 0 := Or.inl ⟨(by decide +kernel), q_in 1160 (by decide +kernel) (by decide +kernel), q_in 1161 (by decide +kernel) (by decide +kernel), q_in 1162 (by decide +kernel) (by decide +kernel), (by decide +kernel)⟩
theorem rLV_14_60_11_72 : q_okV (q_cs 14) 60 (q_cs 11) 72 2 := Or.inl ⟨(by decide +kernel), q_in 539 (by decide +kernel) (by decide +kernel), q_in 540 (by decide +kernel) (by decide +kernel), q_in 541 (by decide +kernel) (by decide +kernel), (by decide +kernel)⟩
theorem rLV_14_63_12_156 : q_okV (q_cs 14) 63 (q_cs 12) 156 2 := Or.inl ⟨(by decide +kernel), q_in 1168 (by decide +kernel) (by decide +kernel), q_in 1169 (by decide +kernel) (by decide +kernel), q_in 1170 (by decide +kernel) (by decide +kernel), (by decide +kernel)⟩
theorem rLV_14_64_11_73 : q_okV (q_cs 14) 64 (q_cs 11) 73 3 := Or.inl ⟨(by decide +kernel), q_in 553 (by decide +kernel) (by decide +kernel), q_in 554 (by decide +kernel) (by decide +kernel), q_in 555 (by decide +kernel) (by decide +kernel), (by decide +kernel)⟩
theorem rLV_14_67_12_157 : q_okV (q_cs 14) 67 (q_cs 12) 157 3 := Or.inl ⟨(by decide +kernel), q_in 1180 (by decide +kernel) (by decide +kernel), q_in 1181 (by decide +kernel) (by decide +kernel), q_in 1182 (by decide +kernel) (by decide +kernel), (by decide +kernel)⟩
theorem rLV_14_68_11_74 : q_okV (q_cs 14) 68 (q_cs 11) 74 3 := Or.inl ⟨(by decide +kernel), q_in 557 (by decide +kernel) (by decide +kernel), q_in 558 (by decide +kernel) (by decide +kernel), q_in 559 (by decide +kernel) (by decide +kernel), (by decide +kernel)⟩
theorem rLV_14_71_12_160 : q_okV (q_cs 14) 71 (q_cs 12) 160 3 := Or.inl ⟨(by decide +kernel), q_in 1184 (by decide +kernel) (by decide +kernel), q_in 1185 (by decide +kernel) (by decide +kernel), q_in 1186 (by decide +kernel) (by decide +kernel), (by decide +kernel)⟩
theorem rLV_14_72_11_75 : q_okV (q_cs 14) 72 (q_cs 11) 75 2 := Or.inl ⟨(by decide +kernel), q_in 568 (by decide +kernel) (by decide +kernel), q_in 569 (by decide +kernel) (by decide +kernel), q_in 570 (by decide +kernel) (by decide +kernel), (by decide +kernel)⟩
theorem rLV_14_75_12_161 : q_okV (q_cs 14) 75 (q_cs 12) 161 2 := Or.inl ⟨(by decide +kernel), q_in 1195 (by decide +kernel) (by decide +kernel), q_in 1196 (by decide +kernel) (by decide +kernel), q_in 1197 (by decide +kernel) (by decide +kernel), (by decide +kernel)⟩
theorem rLV_14_76_11_76 : q_okV (q_cs 14) 76 (q_cs 11) 76 5 := Or.inl ⟨(by decide +kernel), q_in 572 (by decide +kernel) (by decide +kernel), q_in 573 (by decide +kernel) (by decide +kernel), q_in 574 (by decide +kernel) (by decide +kernel), (by decide +kernel)⟩
theorem rLV_14_80_12_162 : q_okV (q_cs 14) 80 (q_cs 12) 162 5 := Or.inl ⟨(by decide +kernel), q_in 1199 (by decide +kernel) (by decide +kernel), q_in 1200 (by decide +kernel) (by decide +kernel), q_in 1201 (by decide +kernel) (by decide +kernel), (by decide +kernel)⟩
theorem rLV_14_81_11_77 : q_okV (q_cs 14) 81 (q_cs 11) 77 4 := Or.inl ⟨(by decide +kernel), q_in 589 (by decide +kernel) (by decide +kernel), q_in 590 (by decide +kernel) (by decide +kernel), q_in 591 (by decide +kernel) (by decide +kernel), (by decide +kernel)⟩
theorem rLV_14_85_12_163 : q_okV (q_cs 14) 85 (q_cs 12) 163 4 := Or.inl ⟨(by decide +kernel), q_in 1203 (by decide +kernel) (by decide +kernel), q_in 1204 (by decide +kernel) (by decide +kernel), q_in 1205 (by decide +kernel) (by decide +kernel), (by decide +kernel)⟩
theorem rLV_14_86_11_78 : q_okV (q_cs 14) 86 (q_cs 11) 78 3 := Or.inl ⟨(by decide +kernel), q_in 593 (by decide +kernel) (by decide +kernel), q_in 594 (by decide +kernel) (by decide +kernel), q_in 595 (by decide +kernel) (by decide +kernel), (by decide +kernel)⟩
theorem rLV_14_89_12_164 : q_okV (q_cs 14) 89 (q_cs 12) 164 3 := Or.inl ⟨(by decide +kernel), q_in 1207 (by decide +kernel) (by decide +kernel), q_in 1208 (by decide +kernel) (by decide +kernel), q_in 1209 (by decide +kernel) (by decide +kernel), (by decide +kernel)⟩
theorem rLV_14_90_11_79 : q_okV (q_cs 14) 90 (q_cs 11) 79 2 := Or.inl ⟨(by decide +kernel), q_in 597 (by decide +kernel) (by decide +kernel), q_in 598 (by decide +kernel) (by decide +kernel), q_in 599 (by decide +kernel) (by decide +kernel), (by decide +kernel)⟩
theorem rLV_14_93_12_166 : q_okV (q_cs 14) 93 (q_cs 12) 166 2 := Or.inl ⟨(by decide +kernel), q_in 1211 (by decide +kernel) (by decide +kernel), q_in 1212 (by decide +kernel) (by decide +kernel), q_in 1213 (by decide +kernel) (by decide +kernel), (by decide +kernel)⟩
theorem rLV_14_94_11_80 : q_okV (q_cs 14) 94 (q_cs 11) 80 1 := Or.inl ⟨(by decide +kernel), q_in 605 (by decide +kernel) (by decide +kernel), q_in 606 (by decide +kernel) (by decide +kernel), q_in 607 (by decide +kernel) (by decide +kernel), (by decide +kernel)⟩
theorem rLV_14_98_12_167 : q_okV (q_cs 14) 98 (q_cs 12) 167 1 := Or.inl ⟨(by decide +kernel), q_in 1219 (by decide +kernel) (by decide +kernel), q_in 1220 (by decide +kernel) (by decide +kernel), q_in 1221 (by decide +kernel) (by decide +kernel), (by decide +kernel)⟩
theorem rLV_14_99_11_81 : q_okV (q_cs 14) 99 (q_cs 11) 81 5 := Or.inl ⟨(by decide +kernel), q_in 609 (by decide +kernel) (by decide +kernel), q_in 610 (by decide +kernel) (by decide +kernel), q_in 611 (by decide +kernel) (by decide +kernel), (by decide +kernel)⟩
theorem rLV_14_102_12_176 : q_okV (q_cs 14) 102 (q_cs 12) 176 5 := Or.inl ⟨(by decide +kernel), q_in 1250 (by decide +kernel) (by decide +kernel), q_in 1251 (by decide +kernel) (by decide +kernel), q_in 1252 (by decide +kernel) (by decide +kernel), (by decide +kernel)⟩
theorem rLV_14_103_11_82 : q_okV (q_cs 14) 103 (q_cs 11) 82 2 := Or.inl ⟨(by decide +kernel), q_in 637 (by decide +kernel) (by decide +kernel), q_in 638 (by decide +kernel) (by decide +kernel), q_in 639 (by decide +kernel) (by decide +kernel), (by decide +kernel)⟩
theorem rLV_14_106_12_179 : q_okV (q_cs 14) 106 (q_cs 12) 179 2 := Or.inl ⟨(by decide +kernel), q_in 1266 (by decide +kernel) (by decide +kernel), q_in 1267 (by decide +kernel) (by decide +kernel), q_in 1268 (by decide +kernel) (by decide +kernel), (by decide +kernel)⟩
theorem rLV_14_107_11_83 : q_okV (q_cs 14) 107 (q_cs 11) 83 3 := Or.inl ⟨(by decide +kernel), q_in 641 (by decide +kernel) (by decide +kernel), q_in 642 (by decide +kernel) (by decide +kernel), q_in 643 (by decide +kernel) (by decide +kernel), (by decide +kernel)⟩
theorem rLV_14_110_12_180 : q_okV (q_cs 14) 110 (q_cs 12) 180 3 := Or.inl ⟨(by decide +kernel), q_in 1270 (by decide +kernel) (by decide +kernel), q_in 1271 (by decide +kernel) (by decide +kernel), q_in 1272 (by decide +kernel) (by decide +kernel), (by decide +kernel)⟩
theorem rLV_14_111_11_84 : q_okV (q_cs 14) 111 (q_cs 11) 84 2 := Or.inl ⟨(by decide +kernel), q_in 649 (by decide +kernel) (by decide +kernel), q_in 650 (by decide +kernel) (by decide +kernel), q_in 651 (by decide +kernel) (by decide +kernel), (by decide +kernel)⟩
theorem rLV_14_114_12_181 : q_okV (q_cs 14) 114 (q_cs 12) 181 2 := Or.inl ⟨(by decide +kernel), q_in 1274 (by decide +kernel) (by decide +kernel), q_in 1275 (by decide +kernel) (by decide +kernel), q_in 1276 (by decide +kernel) (by decide +kernel), (by decide +kernel)⟩
theorem rLV_14_115_11_85 : q_okV (q_cs 14) 115 (q_cs 11) 85 0 := Or.inl ⟨(by decide +kernel), q_in 653 (by decide +kernel) (by decide +kernel), q_in 654 (by decide +kernel) (by decide +kernel), q_in 655 (by decide +kernel) (by decide +kernel), (by decide +kernel)⟩
theorem rLV_14_118_12_182 : q_okV (q_cs 14) 118 (q_cs 12) 182 0 := Or.inl ⟨(by decide +kernel), q_in 1290 (by decide +kernel) (by decide +kernel), q_in 1291 (by decide +kernel) (by decide +kernel), q_in 1292 (by decide +kernel) (by decide +kernel), (by decide +kernel)⟩
theorem rLV_14_119_11_86 : q_okV (q_cs 14) 119 (q_cs 11) 86 0 := Or.inl ⟨(by decide +kernel), q_in 658 (by decide +kernel) (by decide +kernel), q_in 659 (by decide +kernel) (by decide +kernel), q_in 660 (by decide +kernel) (by decide +kernel), (by decide +kernel)⟩
theorem rLV_14_122_12_183 : q_okV (q_cs 14) 122 (q_cs 12) 183 0 := Or.inl ⟨(by decide +kernel), q_in 1295 (by decide +kernel) (by decide +kernel), q_in 1296 (by decide +kernel) (by decide +kernel), q_in 1297 (by decide +kernel) (by decide +kernel), (by decide +kernel)⟩
theorem rLV_14_123_11_87 : q_okV (q_cs 14) 123 (q_cs 11) 87 0 := Or.inl ⟨(by decide +kernel), q_in 662 (by decide +kernel) (by decide +kernel), q_in 663 (by decide +kernel) (by decide +kernel), q_in 664 (by decide +kernel) (by decide +kernel), (by decide +kernel)⟩
theorem rLV_14_126_12_146 : q_okV (q_cs 14) 126 (q_cs 12) 146 0 := Or.inl ⟨(by decide +kernel), q_in 1097 (by decide +kernel) (by decide +kernel), q_in 1098 (by decide +kernel) (by decide +kernel), q_in 1099 (by decide +kernel) (by decide +kernel), (by decide +kernel)⟩
theorem rLV_14_127_11_88 : q_okV (q_cs 14) 127 (q_cs 11) 88 0 := Or.inl ⟨(by decide +kernel), q_in 671 (by decide +kernel) (by decide +kernel), q_in 672 (by decide +kernel) (by decide +kernel), q_in 673 (by decide +kernel) (by decide +kernel), (by decide +kernel)⟩
theorem rLV_14_130_12_147 : q_okV (q_cs 14) 130 (q_cs 12) 147 0 := Or.inl ⟨(by decide +kernel), q_in 1101 (by decide +kernel) (by decide +kernel), q_in 1102 (by decide +kernel) (by decide +kernel), q_in 1103 (by decide +kernel) (by decide +kernel), (by decide +kernel)⟩
theorem rLV_14_131_11_89 : q_okV (q_cs 14) 131 (q_cs 11) 89 1 := Or.inl ⟨(by decide +kernel), q_in 679 (by decide +kernel) (by decide +kernel), q_in 680 (by decide +kernel) (by decide +kernel), q_in 681 (by decide +kernel) (by decide +kernel), (by decide +kernel)⟩
theorem rLV_14_134_12_184 : q_okV (q_cs 14) 134 (q_cs 12) 184 1 := Or.inl ⟨(by decide +kernel), q_in 1299 (by decide +kernel) (by decide +kernel), q_in 1300 (by decide +kernel) (by decide +kernel), q_in 1301 (by decide +kernel) (by decide +kernel), (by decide +kernel)⟩
theorem rLV_14_135_11_90 : q_okV (q_cs 14) 135 (q_cs 11) 90 0 := Or.inl ⟨(by decide +kernel), q_in 687 (by decide +kernel) (by decide +kernel), q_in 688 (by decide +kernel) (by decide +kernel), q_in 689 (by decide +kernel) (by decide +kernel), (by decide +kernel)⟩
theorem rLV_14_138_12_185 : q_okV (q_cs 14) 138 (q_cs 12) 185 0 := Or.inl ⟨(by decide +kernel), q_in 1303 (by decide +kernel) (by decide +kernel), q_in 1304 (by decide +kernel) (by decide +kernel), q_in 1305 (by decide +kernel) (by decide +kernel), (by decide +kernel)⟩
theorem rLV_14_139_11_91 : q_okV (q_cs 14) 139 (q_cs 11) 91 0 := Or.inl ⟨(by decide +kernel), q_in 691 (by decide +kernel) (by decide +kernel), q_in 692 (by decide +kernel) (by decide +kernel), q_in 693 (by decide +kernel) (by decide +kernel), (by decide +kernel)⟩
theorem rLV_14_142_12_192 : q_okV (q_cs 14) 142 (q_cs 12) 192 0 := Or.inl ⟨(by decide +kernel), q_in 1307 (by decide +kernel) (by decide +kernel), q_in 1308 (by decide +kernel) (by decide +kernel), q_in 1309 (by decide +kernel) (by decide +kernel), (by decide +kernel)⟩
theorem rLV_14_143_11_92 : q_okV (q_cs 14) 143 (q_cs 11) 92 3 := Or.inl ⟨(by decide +kernel), q_in 723 (by decide +kernel) (by decide +kernel), q_in 724 (by decide +kernel) (by decide +kernel), q_in 725 (by decide +kernel) (by decide +kernel), (by decide +kernel)⟩
theorem rLV_14_146_12_170 : q_okV (q_cs 14) 146 (q_cs 12) 170 3 := Or.inl ⟨(by decide +kernel), q_in 1223 (by decide +kernel) (by decide +kernel), q_in 1224 (by decide +kernel) (by decide +kernel), q_in 1225 (by decide +kernel) (by decide +kernel), (by decide +kernel)⟩
theorem rLV_14_149_11_93 : q_okV (q_cs 14) 149 (q_cs 11) 93 3 := Or.inl ⟨(by decide +kernel), q_in 731 (by decide +kernel) (by decide +kernel), q_in 732 (by decide +kernel) (by decide +kernel), q_in 733 (by decide +kernel) (by decide +kernel), (by decide +kernel)⟩
theorem rLV_14_153_12_171 : q_okV (q_cs 14) 153 (q_cs 12) 171 3 := Or.inl ⟨(by decide +kernel), q_in 1230 (by decide +kernel) (by decide +kernel), q_in 1231 (by decide +kernel) (by decide +kernel), q_in 1232 (by decide +kernel) (by decide +kernel), (by decide +kernel)⟩
theorem rLV_14_154_11_94 : q_okV (q_cs 14) 154 (q_cs 11) 94 2 := Or.inl ⟨(by decide +kernel), q_in 743 (by decide +kernel) (by decide +kernel), q_in 744 (by decide +kernel) (by decide +kernel), q_in 745 (by decide +kernel) (by decide +kernel), (by decide +kernel)⟩
theorem rLV_14_158_12_172 : q_okV (q_cs 14) 158 (q_cs 12) 172 2 := Or.inl ⟨(by decide +kernel), q_in 1237 (by decide +kernel) (by decide +kernel), q_in 1238 (by decide +kernel) (by decide +kernel), q_in 1239 (by decide +kernel) (by decide +kernel), (by decide +kernel)⟩
theorem rLV_14_159_11_95 : q_okV (q_cs 14) 159 (q_cs 11) 95 3 := Or.inl ⟨(by decide +kernel), q_in 748 (by decide +kernel) (by decide +kernel), q_in 749 (by decide +kernel) (by decide +kernel), q_in 750 (by decide +kernel) (by decide +kernel), (by decide +kernel)⟩
theorem rLV_14_162_12_173 : q_okV (q_cs 14) 162 (q_cs 12) 173 3 := Or.inl ⟨(by decide +kernel), q_in 1242 (by decide +kernel) (by decide +kernel), q_in 1243 (by decide +kernel) (by decide +kernel), q_in 1244 (by decide +kernel) (by decide +kernel), (by decide +kernel)⟩
theorem rLV_14_163_11_96 : q_okV (q_cs 14) 163 (q_cs 11) 96 5 := Or.inl ⟨(by decide +kernel), q_in 752 (by decide +kernel) (by decide +kernel), q_in 753 (by decide +kernel) (by decide +kernel), q_in 754 (by decide +kernel) (by decide +kernel), (by decide +kernel)⟩
theorem rLV_14_166_12_174 : q_okV (q_cs 14) 166 (q_cs 12) 174 5 := Or.inl ⟨(by decide +kernel), q_in 1246 (by decide +kernel) (by decide +kernel), q_in 1247 (by decide +kernel) (by decide +kernel), q_in 1248 (by decide +kernel) (by decide +kernel), (by decide +kernel)⟩
theorem rLV_14_167_11_97 : q_okV (q_cs 14) 167 (q_cs 11) 97 3 := Or.inl ⟨(by decide +kernel), q_in 761 (by decide +kernel) (by decide +kernel), q_in 762 (by decide +kernel) (by decide +kernel), q_in 763 (by decide +kernel) (by decide +kernel), (by decide +kernel)⟩
theorem rLV_14_170_12_197 : q_okV (q_cs 14) 170 (q_cs 12) 197 3 := Or.inl ⟨(by decide +kernel), q_in 1336 (by decide +kernel) (by decide +kernel), q_in 1337 (by decide +kernel) (by decide +kernel), q_in 1338 (by decide +kernel) (by decide +kernel), (by decide +kernel)⟩
theorem rLV_14_171_11_98 : q_okV (q_cs 14) 171 (q_cs 11) 98 1 := Or.inl ⟨(by decide +kernel), q_in 846 (by decide +kernel) (by decide +kernel), q_in 847 (by decide +kernel) (by decide +kernel), q_in 848 (by decide +kernel) (by decide +kernel), (by decide +kernel)⟩
theorem rLV_14_174_12_198 : q_okV (q_cs 14) 174 (q_cs 12) 198 1 := Or.inl ⟨(by decide +kernel), q_in 1356 (by decide +kernel) (by decide +kernel), q_in 1357 (by decide +kernel) (by decide +kernel), q_in 1358 (by decide +kernel) (by decide +kernel), (by decide +kernel)⟩
theorem rLV_14_175_11_99 : q_okV (q_cs 14) 175 (q_cs 11) 99 2 := Or.inl ⟨(by decide +kernel), q_in 850 (by decide +kernel) (by decide +kernel), q_in 851 (by decide +kernel) (by decide +kernel), q_in 852 (by decide +kernel) (by decide +kernel), (by decide +kernel)⟩
theorem rLV_14_178_12_199 : q_okV (q_cs 14) 178 (q_cs 12) 199 2 := Or.inl ⟨(by decide +kernel), q_in 1360 (by decide +kernel) (by decide +kernel), q_in 1361 (by decide +kernel) (by decide +kernel), q_in 1362 (by decide +kernel) (by decide +kernel), (by decide +kernel)⟩
theorem rLV_14_179_11_100 : q_okV (q_cs 14) 179 (q_cs 11) 100 0 := Or.inl ⟨(by decide +kernel), q_in 857 (by decide +kernel) (by decide +kernel), q_in 858 (by decide +kernel) (by decide +kernel), q_in 859 (by decide +kernel) (by decide +kernel), (by decide +kernel)⟩
theorem rLV_14_182_12_203 : q_okV (q_cs 14) 182 (q_cs 12) 203 0 := Or.inl ⟨(by decide +kernel), q_in 1364 (by decide +kernel) (by decide +kernel), q_in 1365 (by decide +kernel) (by decide +kernel), q_in 1366 (by decide +kernel) (by decide +kernel), (by decide +kernel)⟩
theorem rLV_14_183_11_101 : q_okV (q_cs 14) 183 (q_cs 11) 101 0 := Or.inl ⟨(by decide +kernel), q_in 866 (by decide +kernel) (by decide +kernel), q_in 867 (by decide +kernel) (by decide +kernel), q_in 868 (by decide +kernel) (by decide +kernel), (by decide +kernel)⟩
theorem rLV_14_186_12_204 : q_okV (q_cs 14) 186 (q_cs 12) 204 0 := Or.inl ⟨(by decide +kernel), q_in 1368 (by decide +kernel) (by decide +kernel), q_in 1369 (by decide +kernel) (by decide +kernel), q_in 1370 (by decide +kernel) (by decide +kernel), (by decide +kernel)⟩
theorem rLV_14_187_11_102 : q_okV (q_cs 14) 187 (q_cs 11) 102 0 := Or.inl ⟨(by decide +kernel), q_in 875 (by decide +kernel) (by decide +kernel), q_in 876 (by decide +kernel) (by decide +kernel), q_in 877 (by decide +kernel) (by decide +kernel), (by decide +kernel)⟩
theorem rLV_14_190_12_205 : q_okV (q_cs 14) 190 (q_cs 12) 205 0 := Or.inl ⟨(by decide +kernel), q_in 1372 (by decide +kernel) (by decide +kernel), q_in 1373 (by decide +kernel) (by decide +kernel), q_in 1374 (by decide +kernel) (by decide +kernel), (by decide +kernel)⟩
theorem rLV_14_191_11_103 : q_okV (q_cs 14) 191 (q_cs 11) 103 1 := Or.inl ⟨(by decide +kernel), q_in 879 (by decide +kernel) (by decide +kernel), q_in 880 (by decide +kernel) (by decide +kernel), q_in 881 (by decide +kernel) (by decide +kernel), (by decide +kernel)⟩
theorem rLV_14_194_12_207 : q_okV (q_cs 14) 194 (q_cs 12) 207 1 := Or.inl ⟨(by decide +kernel), q_in 1376 (by decide +kernel) (by decide +kernel), q_in 1377 (by decide +kernel) (by decide +kernel), q_in 1378 (by decide +kernel) (by decide +kernel), (by decide +kernel)⟩
theorem rLS_4_58_105 : q_okS (q_cs 4) 58 105 2 := ⟨Or.inr ⟨(by decide +kernel), rfl, (by decide +kernel)⟩, q_in 340 (by decide +kernel) (by decide +kernel), (by decide +kernel)⟩
theorem rLS_6_57_209 : q_okS (q_cs 6) 57 209 2 := ⟨Or.inl (q_in 524 (by decide +kernel) (by decide +kernel)), q_in 525 (by decide +kernel) (by decide +kernel), (by decide +kernel)⟩
theorem rLS_6_65_210 : q_okS (q_cs 6) 65 210 2 := ⟨Or.inl (q_in 536 (by decide +kernel) (by decide +kernel)), q_in 537 (by decide +kernel) (by decide +kernel), (by decide +kernel)⟩
theorem rLS_9_11_208 : q_okS (q_cs 9) 11 208 2 := ⟨Or.inl (q_in 447 (by decide +kernel) (by decide +kernel)), q_in 448 (by decide +kernel) (by decide +kernel), (by decide +kernel)⟩
theorem rLS_10_22_56 : q_okS (q_cs 10) 22 56 1 := ⟨Or.inl (q_in 699 (by decide +kernel) (by decide +kernel)), q_in 700 (by decide +kernel) (by decide +kernel), (by decide +kernel)⟩
theorem rLS_10_26_57 : q_okS (q_cs 10) 26 57 1 := ⟨Or.inl (q_in 702 (by decide +kernel) (by decide +kernel)), q_in 703 (by decide +kernel) (by decide +kernel), (by decide +kernel)⟩
theorem rLS_11_87_104 : q_okS (q_cs 11) 87 104 1 := ⟨Or.inl (q_in 336 (by decide +kernel) (by decide +kernel)), q_in 337 (by decide +kernel) (by decide +kernel), (by decide +kernel)⟩
theorem rLS_11_91_105 : q_okS (q_cs 11) 91 105 2 := ⟨Or.inl (q_in 339 (by decide +kernel) (by decide +kernel)), q_in 340 (by decide +kernel) (by decide +kernel), (by decide +kernel)⟩
theorem rLS_11_158_107 : q_okS (q_cs 11) 158 107 2 := ⟨Or.inl (q_in 471 (by decide +kernel) (by decide +kernel)), q_in 472 (by decide +kernel) (by decide +kernel), (by decide +kernel)⟩
theorem rLS_11_182_106 : q_okS (q_cs 11) 182 106 1 := ⟨Or.inl (q_in 474 (by decide +kernel) (by decide +kernel)), q_in 475 (by decide +kernel) (by decide +kernel), (by decide +kernel)⟩
theorem rLS_11_189_108 : q_okS (q_cs 11) 189 108 3 := ⟨Or.inl (q_in 561 (by decide +kernel) (by decide +kernel)), q_in 562 (by decide +kernel) (by decide +kernel), (by decide +kernel)⟩
theorem rLS_11_218_109 : q_okS (q_cs 11) 218 109 1 := ⟨Or.inl (q_in 613 (by decide +kernel) (by decide +kernel)), q_in 614 (by decide +kernel) (by decide +kernel), (by decide +kernel)⟩
theorem rLS_11_331_110 : q_okS (q_cs 11) 331 110 2 := ⟨Or.inl (q_in 854 (by decide +kernel) (by decide +kernel)), q_in 855 (by decide +kernel) (by decide +kernel), (by decide +kernel)⟩
theorem rLS_12_122_120 : q_okS (q_cs 12) 122 120 3 := ⟨Or.inl (q_in 1040 (by decide +kernel) (by decide +kernel)), q_in 1041 (by decide +kernel) (by decide +kernel), (by decide +kernel)⟩
theorem rLS_12_126_123 : q_okS (q_cs 12) 126 123 1 := ⟨Or.inl (q_in 1124 (by decide +kernel) (by decide +kernel)), q_in 1125 (by decide +kernel) (by decide +kernel), (by decide +kernel)⟩
theorem rLS_12_147_129 : q_okS (q_cs 12) 147 129 1 := ⟨Or.inl (q_in 1140 (by decide +kernel) (by decide +kernel)), q_in 1141 (by decide +kernel) (by decide +kernel), (by decide +kernel)⟩
theorem rLS_12_185_141 : q_okS (q_cs 12) 185 141 1 := ⟨Or.inl (q_in 1075 (by decide +kernel) (by decide +kernel)), q_in 1076 (by decide +kernel) (by decide +kernel), (by decide +kernel)⟩
theorem rLS_12_188_142 : q_okS (q_cs 12) 188 142 1 := ⟨Or.inl (q_in 1078 (by decide +kernel) (by decide +kernel)), q_in 1079 (by decide +kernel) (by decide +kernel), (by decide +kernel)⟩
theorem rLS_12_209_124 : q_okS (q_cs 12) 209 124 2 := ⟨Or.inl (q_in 1121 (by decide +kernel) (by decide +kernel)), q_in 1122 (by decide +kernel) (by decide +kernel), (by decide +kernel)⟩
theorem rLS_12_218_158 : q_okS (q_cs 12) 218 158 3 := ⟨Or.inl (q_in 1188 (by decide +kernel) (by decide +kernel)), q_in 1189 (by decide +kernel) (by decide +kernel), (by decide +kernel)⟩
theorem rLS_12_228_168 : q_okS (q_cs 12) 228 168 1 := ⟨Or.inl (q_in 1227 (by decide +kernel) (by decide +kernel)), q_in 1228 (by decide +kernel) (by decide +kernel), (by decide +kernel)⟩
theorem rLS_12_231_169 : q_okS (q_cs 12) 231 169 2 := ⟨Or.inl (q_in 1234 (by decide +kernel) (by decide +kernel)), q_in 1235 (by decide +kernel) (by decide +kernel), (by decide +kernel)⟩
theorem rLS_12_266_187 : q_okS (q_cs 12) 266 187 1 := ⟨Or.inl (q_in 1323 (by decide +kernel) (by decide +kernel)), q_in 1324 (by decide +kernel) (by decide +kernel), (by decide +kernel)⟩
theorem rLI_1_7_46 : q_okP (q_cs 1) 7 46 2 := ⟨⟨"WhirlShafts$Rim", "weighs", "(II)I"⟩, q_in 436 (by decide +kernel) (by decide +kernel), q_in 1385 (by decide +kernel) (by decide +kernel), q_in 125 (by decide +kernel) (by decide +kernel), Or.inl (by decide +kernel), q_in 437 (by decide +kernel) (by decide +kernel), (by decide +kernel), (by decide +kernel), (by decide +kernel)⟩
theorem rLI_1_17_13 : q_okP (q_cs 1) 17 13 1 := ⟨⟨"WhirlShafts$Rim", "tells", "(I)I"⟩, q_in 838 (by decide +kernel) (by decide +kernel), q_in 839 (by decide +kernel) (by decide +kernel), q_in 125 (by decide +kernel) (by decide +kernel), Or.inr (q_in 103 (by decide +kernel) (by decide +kernel)), q_in 832 (by decide +kernel) (by decide +kernel), (by decide +kernel), (by decide +kernel), (by decide +kernel)⟩
theorem rLI_1_21_11 : q_okP (q_cs 1) 21 11 1 := ⟨⟨"WhirlShafts$Rim", "spins", "(I)I"⟩, q_in 787 (by decide +kernel) (by decide +kernel), q_in 788 (by decide +kernel) (by decide +kernel), q_in 125 (by decide +kernel) (by decide +kernel), Or.inr (q_in 103 (by decide +kernel) (by decide +kernel)), q_in 775 (by decide +kernel) (by decide +kernel), (by decide +kernel), (by decide +kernel), (by decide +kernel)⟩
theorem rLI_3_13_11 : q_okP (q_cs 3) 13 11 1 := ⟨⟨"WhirlShafts$Disc", "spins", "(I)I"⟩, q_in 797 (by decide +kernel) (by decide +kernel), q_in 777 (by decide +kernel) (by decide +kernel), q_in 114 (by decide +kernel) (by decide +kernel), Or.inl (by decide +kernel), q_in 775 (by decide +kernel) (by decide +kernel), (by decide +kernel), (by decide +kernel), (by decide +kernel)⟩
theorem rLI_7_13_12 : q_okP (q_cs 7) 13 12 1 := ⟨⟨"WhirlShafts$Disc", "swings", "(I)I"⟩, q_in 813 (by decide +kernel) (by decide +kernel), q_in 805 (by decide +kernel) (by decide +kernel), q_in 103 (by decide +kernel) (by decide +kernel), Or.inl (by decide +kernel), q_in 803 (by decide +kernel) (by decide +kernel), (by decide +kernel), (by decide +kernel), (by decide +kernel)⟩
theorem rLI_9_7_14 : q_okP (q_cs 9) 7 14 2 := ⟨⟨"WhirlShafts$Hub", "weighs", "(II)I"⟩, q_in 446 (by decide +kernel) (by decide +kernel), q_in 1386 (by decide +kernel) (by decide +kernel), q_in 136 (by decide +kernel) (by decide +kernel), Or.inl (by decide +kernel), q_in 440 (by decide +kernel) (by decide +kernel), (by decide +kernel), (by decide +kernel), (by decide +kernel)⟩
theorem rLI_9_22_12 : q_okP (q_cs 9) 22 12 1 := ⟨⟨"WhirlShafts$Hub", "swings", "(I)I"⟩, q_in 822 (by decide +kernel) (by decide +kernel), q_in 823 (by decide +kernel) (by decide +kernel), q_in 136 (by decide +kernel) (by decide +kernel), Or.inr (q_in 114 (by decide +kernel) (by decide +kernel)), q_in 803 (by decide +kernel) (by decide +kernel), (by decide +kernel), (by decide +kernel), (by decide +kernel)⟩
theorem rLC_6_53 : Cond.constantLong (q_cs 6) 53 (Int64.ofNat 1073741823) ∈ q_TW := q_in 496 (by decide +kernel) (by decide +kernel)
theorem rLC_6_55 : Cond.constantLong (q_cs 6) 55 (Int64.ofNat 10007) ∈ q_TW := q_in 523 (by decide +kernel) (by decide +kernel)
theorem rLC_6_63 : Cond.constantLong (q_cs 6) 63 (Int64.ofNat 2) ∈ q_TW := q_in 535 (by decide +kernel) (by decide +kernel)
theorem rLC_6_76 : Cond.constantLong (q_cs 6) 76 (Int64.ofNat 9999) ∈ q_TW := q_in 632 (by decide +kernel) (by decide +kernel)
theorem rLC_11_295 : Cond.constantLong (q_cs 11) 295 (Int64.ofNat 9223372036854775808) ∈ q_TW := q_in 747 (by decide +kernel) (by decide +kernel)
theorem rLC_12_140 : Cond.constantLong (q_cs 12) 140 (Int64.ofNat 10007) ∈ q_TW := q_in 1143 (by decide +kernel) (by decide +kernel)
theorem rLC_12_142 : Cond.constantLong (q_cs 12) 142 (Int64.ofNat 268435455) ∈ q_TW := q_in 1135 (by decide +kernel) (by decide +kernel)
theorem rLC_12_235 : Cond.constantLong (q_cs 12) 235 (Int64.ofNat 9223372036854775808) ∈ q_TW := q_in 1241 (by decide +kernel) (by decide +kernel)
theorem rLC_14_147 : Cond.constantLong (q_cs 14) 147 (Int64.ofNat 4294967295) ∈ q_TW := q_in 1384 (by decide +kernel) (by decide +kernel)
theorem rLG_11_9 : Cond.fieldLink (q_cs 11) 9 "WhirlShafts" "ABOVE" "[I" ∈ q_TW := q_in 68 (by decide +kernel) (by decide +kernel)
theorem rLG_11_351 : Cond.fieldLink (q_cs 11) 351 "WhirlShafts" "LEAST" "[I" ∈ q_TW := q_in 342 (by decide +kernel) (by decide +kernel)
theorem rLG_11_354 : Cond.fieldLink (q_cs 11) 354 "WhirlShafts" "MOST" "[I" ∈ q_TW := q_in 344 (by decide +kernel) (by decide +kernel)
theorem rLA_0_34 : Cond.methodLink (q_cs 0) 34 arraycopyName ∈ q_TW := q_in 403 (by decide +kernel) (by decide +kernel)
theorem rLA_4_41 : Cond.methodLink (q_cs 4) 41 arraycopyName ∈ q_TW := q_in 580 (by decide +kernel) (by decide +kernel)
theorem rLA_5_25 : Cond.methodLink (q_cs 5) 25 arraycopyName ∈ q_TW := q_in 865 (by decide +kernel) (by decide +kernel)
theorem rLA_11_303 : Cond.methodLink (q_cs 11) 303 arraycopyName ∈ q_TW := q_in 760 (by decide +kernel) (by decide +kernel)
theorem rCI_0 : Cond.initialized (q_cs 0) ∈ q_TW := q_in 53 (by decide +kernel) (by decide +kernel)
theorem rCI_1 : Cond.initialized (q_cs 1) ∈ q_TW := q_in 49 (by decide +kernel) (by decide +kernel)
theorem rCI_2 : Cond.initialized (q_cs 2) ∈ q_TW := q_in 46 (by decide +kernel) (by decide +kernel)
theorem rCI_3 : Cond.initialized (q_cs 3) ∈ q_TW := q_in 48 (by decide +kernel) (by decide +kernel)
theorem rCI_4 : Cond.initialized (q_cs 4) ∈ q_TW := q_in 51 (by decide +kernel) (by decide +kernel)
theorem rCI_5 : Cond.initialized (q_cs 5) ∈ q_TW := q_in 52 (by decide +kernel) (by decide +kernel)
theorem rCI_6 : Cond.initialized (q_cs 6) ∈ q_TW := q_in 54 (by decide +kernel) (by decide +kernel)
theorem rCI_7 : Cond.initialized (q_cs 7) ∈ q_TW := q_in 47 (by decide +kernel) (by decide +kernel)
theorem rCI_8 : Cond.initialized (q_cs 8) ∈ q_TW := q_in 56 (by decide +kernel) (by decide +kernel)
theorem rCI_9 : Cond.initialized (q_cs 9) ∈ q_TW := q_in 50 (by decide +kernel) (by decide +kernel)
theorem rCI_10 : Cond.initialized (q_cs 10) ∈ q_TW := q_in 55 (by decide +kernel) (by decide +kernel)
theorem rCI_11 : Cond.initialized (q_cs 11) ∈ q_TW := q_in 45 (by decide +kernel) (by decide +kernel)
theorem rCI_12 : Cond.initialized (q_cs 12) ∈ q_TW := q_in 57 (by decide +kernel) (by decide +kernel)
theorem q_ci_all (c : Nat) (hc : c < 13) : Cond.initialized (q_cs c) ∈ q_TW := by
  rcases (show c = 0 ∨ c = 1 ∨ c = 2 ∨ c = 3 ∨ c = 4 ∨ c = 5 ∨ c = 6 ∨ c = 7 ∨ c = 8 ∨ c = 9 ∨ c = 10 ∨ c = 11 ∨ c = 12 by omega) with rfl | rfl | rfl | rfl | rfl | rfl | rfl | rfl | rfl | rfl | rfl | rfl | rfl
  · exact rCI_0
  · exact rCI_1
  · exact rCI_2
  · exact rCI_3
  · exact rCI_4
  · exact rCI_5
  · exact rCI_6
  · exact rCI_7
  · exact rCI_8
  · exact rCI_9
  · exact rCI_10
  · exact rCI_11
  · exact rCI_12
end
section
/-! ===== every instruction of a table is what the bytes say, and linked ===== -/
theorem alLF_0 : ∀ e ∈ ((q_LF[0]?).getD []), q_fok (q_cs 0) e.1 e.2.1 e.2.2.1 e.2.2.2 := List.forall_mem_cons.mpr ⟨rLF_0_9_0_0_1, List.forall_mem_cons.mpr ⟨rLF_0_15_0_1_1, List.forall_mem_cons.mpr ⟨rLF_0_18_0_2_1, List.forall_mem_cons.mpr ⟨rLF_0_21_0_3_1, List.forall_mem_cons.mpr ⟨rLF_0_24_0_4_0, List.forall_mem_cons.mpr ⟨rLF_0_28_0_5_0, fun _ h => absurd h List.not_mem_nil⟩⟩⟩⟩⟩⟩
theorem alLF_1 : ∀ e ∈ ((q_LF[1]?).getD []), q_fok (q_cs 1) e.1 e.2.1 e.2.2.1 e.2.2.2 := fun _ h => absurd h List.not_mem_nil
theorem alLF_2 : ∀ e ∈ ((q_LF[2]?).getD []), q_fok (q_cs 2) e.1 e.2.1 e.2.2.1 e.2.2.2 := List.forall_mem_cons.mpr ⟨rLF_2_9_2_0_1, List.forall_mem_cons.mpr ⟨rLF_2_15_2_1_0, List.forall_mem_cons.mpr ⟨rLF_2_19_2_2_0, List.forall_mem_cons.mpr ⟨rLF_2_22_2_3_0, fun _ h => absurd h List.not_mem_nil⟩⟩⟩⟩
theorem alLF_3 : ∀ e ∈ ((q_LF[3]?).getD []), q_fok (q_cs 3) e.1 e.2.1 e.2.2.1 e.2.2.2 := fun _ h => absurd h List.not_mem_nil
theorem alLF_4 : ∀ e ∈ ((q_LF[4]?).getD []), q_fok (q_cs 4) e.1 e.2.1 e.2.2.1 e.2.2.2 := List.forall_mem_cons.mpr ⟨rLF_4_9_4_1_1, List.forall_mem_cons.mpr ⟨rLF_4_15_4_2_1, List.forall_mem_cons.mpr ⟨rLF_4_18_4_3_1, List.forall_mem_cons.mpr ⟨rLF_4_21_4_4_1, List.forall_mem_cons.mpr ⟨rLF_4_24_4_5_1, List.forall_mem_cons.mpr ⟨rLF_4_27_4_0_1, List.forall_mem_cons.mpr ⟨rLF_4_31_4_6_0, List.forall_mem_cons.mpr ⟨rLF_4_35_4_7_0, List.forall_mem_cons.mpr ⟨rLF_4_38_4_8_0, fun _ h => absurd h List.not_mem_nil⟩⟩⟩⟩⟩⟩⟩⟩⟩
theorem alLF_5 : ∀ e ∈ ((q_LF[5]?).getD []), q_fok (q_cs 5) e.1 e.2.1 e.2.2.1 e.2.2.2 := List.forall_mem_cons.mpr ⟨rLF_5_9_5_0_1, List.forall_mem_cons.mpr ⟨rLF_5_15_5_1_1, List.forall_mem_cons.mpr ⟨rLF_5_18_5_2_1, List.forall_mem_cons.mpr ⟨rLF_5_21_5_3_0, fun _ h => absurd h List.not_mem_nil⟩⟩⟩⟩
theorem alLF_6 : ∀ e ∈ ((q_LF[6]?).getD []), q_fok (q_cs 6) e.1 e.2.1 e.2.2.1 e.2.2.2 := List.forall_mem_cons.mpr ⟨rLF_6_11_6_1_1, List.forall_mem_cons.mpr ⟨rLF_6_15_6_2_1, List.forall_mem_cons.mpr ⟨rLF_6_18_6_3_1, List.forall_mem_cons.mpr ⟨rLF_6_23_6_4_1, List.forall_mem_cons.mpr ⟨rLF_6_26_4_6_0, List.forall_mem_cons.mpr ⟨rLF_6_32_6_0_0, fun _ h => absurd h List.not_mem_nil⟩⟩⟩⟩⟩⟩
theorem alLF_7 : ∀ e ∈ ((q_LF[7]?).getD []), q_fok (q_cs 7) e.1 e.2.1 e.2.2.1 e.2.2.2 := fun _ h => absurd h List.not_mem_nil
theorem alLF_8 : ∀ e ∈ ((q_LF[8]?).getD []), q_fok (q_cs 8) e.1 e.2.1 e.2.2.1 e.2.2.2 := List.forall_mem_cons.mpr ⟨rLF_8_9_8_0_1, List.forall_mem_cons.mpr ⟨rLF_8_15_8_1_0, List.forall_mem_cons.mpr ⟨rLF_8_19_8_2_0, fun _ h => absurd h List.not_mem_nil⟩⟩⟩
theorem alLF_9 : ∀ e ∈ ((q_LF[9]?).getD []), q_fok (q_cs 9) e.1 e.2.1 e.2.2.1 e.2.2.2 := fun _ h => absurd h List.not_mem_nil
theorem alLF_10 : ∀ e ∈ ((q_LF[10]?).getD []), q_fok (q_cs 10) e.1 e.2.1 e.2.2.1 e.2.2.2 := List.forall_mem_cons.mpr ⟨rLF_10_9_10_0_1, List.forall_mem_cons.mpr ⟨rLF_10_15_10_3_1, List.forall_mem_cons.mpr ⟨rLF_10_18_10_1_0, List.forall_mem_cons.mpr ⟨rLF_10_30_10_2_0, fun _ h => absurd h List.not_mem_nil⟩⟩⟩⟩
theorem alLF_11 : ∀ e ∈ ((q_LF[11]?).getD []), q_fok (q_cs 11) e.1 e.2.1 e.2.2.1 e.2.2.2 := List.forall_mem_cons.mpr ⟨rLF_11_17_11_0_1, List.forall_mem_cons.mpr ⟨rLF_11_39_11_2_1, List.forall_mem_cons.mpr ⟨rLF_11_43_11_3_1, List.forall_mem_cons.mpr ⟨rLF_11_46_11_4_1, List.forall_mem_cons.mpr ⟨rLF_11_52_11_6_1, List.forall_mem_cons.mpr ⟨rLF_11_56_11_7_1, List.forall_mem_cons.mpr ⟨rLF_11_62_11_8_1, List.forall_mem_cons.mpr ⟨rLF_11_69_11_9_1, List.forall_mem_cons.mpr ⟨rLF_11_76_11_10_1, List.forall_mem_cons.mpr ⟨rLF_11_82_11_11_1, List.forall_mem_cons.mpr ⟨rLF_11_95_4_6_0, List.forall_mem_cons.mpr ⟨rLF_11_106_4_7_0, List.forall_mem_cons.mpr ⟨rLF_11_109_4_8_0, List.forall_mem_cons.mpr ⟨rLF_11_140_4_1_1, List.forall_mem_cons.mpr ⟨rLF_11_208_4_4_1, List.forall_mem_cons.mpr ⟨rLF_11_211_4_2_1, List.forall_mem_cons.mpr ⟨rLF_11_225_8_2_0, List.forall_mem_cons.mpr ⟨rLF_11_236_8_0_1, List.forall_mem_cons.mpr ⟨rLF_11_244_5_3_0, List.forall_mem_cons.mpr ⟨rLF_11_249_5_0_1, List.forall_mem_cons.mpr ⟨rLF_11_252_5_1_1, List.forall_mem_cons.mpr ⟨rLF_11_255_5_2_1, List.forall_mem_cons.mpr ⟨rLF_11_261_0_4_0, List.forall_mem_cons.mpr ⟨rLF_11_268_0_5_0, List.forall_mem_cons.mpr ⟨rLF_11_274_10_1_0, List.forall_mem_cons.mpr ⟨rLF_11_297_8_1_0, List.forall_mem_cons.mpr ⟨rLF_11_309_11_1_2, List.forall_mem_cons.mpr ⟨rLF_11_325_2_1_0, List.forall_mem_cons.mpr ⟨rLF_11_328_2_0_1, List.forall_mem_cons.mpr ⟨rLF_11_337_11_5_0, List.forall_mem_cons.mpr ⟨rLF_11_361_10_2_0, List.forall_mem_cons.mpr ⟨rLF_11_370_10_3_1, fun _ h => absurd h List.not_mem_nil⟩⟩⟩⟩⟩⟩⟩⟩⟩⟩⟩⟩⟩⟩⟩⟩⟩⟩⟩⟩⟩⟩⟩⟩⟩⟩⟩⟩⟩⟩⟩⟩
theorem alLF_12 : ∀ e ∈ ((q_LF[12]?).getD []), q_fok (q_cs 12) e.1 e.2.1 e.2.2.1 e.2.2.2 := List.forall_mem_cons.mpr ⟨rLF_12_9_12_3_1, List.forall_mem_cons.mpr ⟨rLF_12_15_12_4_1, List.forall_mem_cons.mpr ⟨rLF_12_18_12_5_1, List.forall_mem_cons.mpr ⟨rLF_12_21_12_6_1, List.forall_mem_cons.mpr ⟨rLF_12_24_12_7_1, List.forall_mem_cons.mpr ⟨rLF_12_27_12_8_1, List.forall_mem_cons.mpr ⟨rLF_12_30_12_9_1, List.forall_mem_cons.mpr ⟨rLF_12_33_12_10_1, List.forall_mem_cons.mpr ⟨rLF_12_36_12_11_1, List.forall_mem_cons.mpr ⟨rLF_12_39_12_12_1, List.forall_mem_cons.mpr ⟨rLF_12_42_12_13_1, List.forall_mem_cons.mpr ⟨rLF_12_46_12_14_1, List.forall_mem_cons.mpr ⟨rLF_12_49_12_15_1, List.forall_mem_cons.mpr ⟨rLF_12_52_12_16_1, List.forall_mem_cons.mpr ⟨rLF_12_55_12_17_1, List.forall_mem_cons.mpr ⟨rLF_12_58_12_18_1, List.forall_mem_cons.mpr ⟨rLF_12_61_12_19_1, List.forall_mem_cons.mpr ⟨rLF_12_64_12_22_1, List.forall_mem_cons.mpr ⟨rLF_12_67_12_23_1, List.forall_mem_cons.mpr ⟨rLF_12_70_12_24_1, List.forall_mem_cons.mpr ⟨rLF_12_73_12_25_1, List.forall_mem_cons.mpr ⟨rLF_12_76_12_27_1, List.forall_mem_cons.mpr ⟨rLF_12_79_12_28_1, List.forall_mem_cons.mpr ⟨rLF_12_82_12_29_1, List.forall_mem_cons.mpr ⟨rLF_12_85_12_30_1, List.forall_mem_cons.mpr ⟨rLF_12_88_12_31_1, List.forall_mem_cons.mpr ⟨rLF_12_91_12_32_1, List.forall_mem_cons.mpr ⟨rLF_12_94_12_33_1, List.forall_mem_cons.mpr ⟨rLF_12_97_12_34_1, List.forall_mem_cons.mpr ⟨rLF_12_100_12_38_1, List.forall_mem_cons.mpr ⟨rLF_12_103_12_40_1, List.forall_mem_cons.mpr ⟨rLF_12_106_12_41_1, List.forall_mem_cons.mpr ⟨rLF_12_109_12_42_1, List.forall_mem_cons.mpr ⟨rLF_12_112_12_43_1, List.forall_mem_cons.mpr ⟨rLF_12_115_12_45_0, List.forall_mem_cons.mpr ⟨rLF_12_119_12_0_0, List.forall_mem_cons.mpr ⟨rLF_12_130_12_1_0, List.forall_mem_cons.mpr ⟨rLF_12_137_12_2_0, List.forall_mem_cons.mpr ⟨rLF_12_166_12_20_0, List.forall_mem_cons.mpr ⟨rLF_12_169_12_21_0, List.forall_mem_cons.mpr ⟨rLF_12_247_12_26_0, List.forall_mem_cons.mpr ⟨rLF_12_257_12_35_0, List.forall_mem_cons.mpr ⟨rLF_12_260_12_36_0, List.forall_mem_cons.mpr ⟨rLF_12_269_12_37_0, List.forall_mem_cons.mpr ⟨rLF_12_291_12_39_0, List.forall_mem_cons.mpr ⟨rLF_12_306_12_46_0, List.forall_mem_cons.mpr ⟨rLF_12_310_12_44_0, fun _ h => absurd h List.not_mem_nil⟩⟩⟩⟩⟩⟩⟩⟩⟩⟩⟩⟩⟩⟩⟩⟩⟩⟩⟩⟩⟩⟩⟩⟩⟩⟩⟩⟩⟩⟩⟩⟩⟩⟩⟩⟩⟩⟩⟩⟩⟩⟩⟩⟩⟩⟩⟩
theorem alLF_13 : ∀ e ∈ ((q_LF[13]?).getD []), q_fok (q_cs 13) e.1 e.2.1 e.2.2.1 e.2.2.2 := fun _ h => absurd h List.not_mem_nil
theorem alLF_14 : ∀ e ∈ ((q_LF[14]?).getD []), q_fok (q_cs 14) e.1 e.2.1 e.2.2.1 e.2.2.2 := fun _ h => absurd h List.not_mem_nil
theorem alLF (o : Nat) : ∀ e ∈ ((q_LF[o]?).getD []), q_fok (q_cs o) e.1 e.2.1 e.2.2.1 e.2.2.2 := by
  by_cases ho : o < 15
  · rcases (show o = 0 ∨ o = 1 ∨ o = 2 ∨ o = 3 ∨ o = 4 ∨ o = 5 ∨ o = 6 ∨ o = 7 ∨ o = 8 ∨ o = 9 ∨ o = 10 ∨ o = 11 ∨ o = 12 ∨ o = 13 ∨ o = 14 by omega) with rfl | rfl | rfl | rfl | rfl | rfl | rfl | rfl | rfl | rfl | rfl | rfl | rfl | rfl | rfl
    · exact alLF_0
    · exact alLF_1
    · exact alLF_2
    · exact alLF_3
    · exact alLF_4
    · exact alLF_5
    · exact alLF_6
    · exact alLF_7
    · exact alLF_8
    · exact alLF_9
    · exact alLF_10
    · exact alLF_11
    · exact alLF_12
    · exact alLF_13
    · exact alLF_14
  · rw [List.getElem?_eq_none (by simp [q_LF]; omega)]
    intro e h
    cases h
def q_pty (t : Nat) : FieldType := match t with
  | 0 => .int
  | 4 => .boolean
  | _ => .object "WhirlShafts$Disc"
theorem alLP_0 : ∀ e ∈ ((q_LP[0]?).getD []), q_pok (q_cs 0) e.1 e.2.1 e.2.2.1 (q_pty e.2.2.2) := List.forall_mem_cons.mpr ⟨rLP_0_24_0_4_0, List.forall_mem_cons.mpr ⟨rLP_0_28_0_5_0, fun _ h => absurd h List.not_mem_nil⟩⟩
theorem alLP_1 : ∀ e ∈ ((q_LP[1]?).getD []), q_pok (q_cs 1) e.1 e.2.1 e.2.2.1 (q_pty e.2.2.2) := fun _ h => absurd h List.not_mem_nil
theorem alLP_2 : ∀ e ∈ ((q_LP[2]?).getD []), q_pok (q_cs 2) e.1 e.2.1 e.2.2.1 (q_pty e.2.2.2) := List.forall_mem_cons.mpr ⟨rLP_2_15_2_1_0, List.forall_mem_cons.mpr ⟨rLP_2_19_2_2_0, List.forall_mem_cons.mpr ⟨rLP_2_22_2_3_0, fun _ h => absurd h List.not_mem_nil⟩⟩⟩
theorem alLP_3 : ∀ e ∈ ((q_LP[3]?).getD []), q_pok (q_cs 3) e.1 e.2.1 e.2.2.1 (q_pty e.2.2.2) := fun _ h => absurd h List.not_mem_nil
theorem alLP_4 : ∀ e ∈ ((q_LP[4]?).getD []), q_pok (q_cs 4) e.1 e.2.1 e.2.2.1 (q_pty e.2.2.2) := List.forall_mem_cons.mpr ⟨rLP_4_31_4_6_0, List.forall_mem_cons.mpr ⟨rLP_4_35_4_7_0, List.forall_mem_cons.mpr ⟨rLP_4_38_4_8_0, fun _ h => absurd h List.not_mem_nil⟩⟩⟩
theorem alLP_5 : ∀ e ∈ ((q_LP[5]?).getD []), q_pok (q_cs 5) e.1 e.2.1 e.2.2.1 (q_pty e.2.2.2) := List.forall_mem_cons.mpr ⟨rLP_5_21_5_3_0, fun _ h => absurd h List.not_mem_nil⟩
theorem alLP_6 : ∀ e ∈ ((q_LP[6]?).getD []), q_pok (q_cs 6) e.1 e.2.1 e.2.2.1 (q_pty e.2.2.2) := List.forall_mem_cons.mpr ⟨rLP_6_32_6_0_0, fun _ h => absurd h List.not_mem_nil⟩
theorem alLP_7 : ∀ e ∈ ((q_LP[7]?).getD []), q_pok (q_cs 7) e.1 e.2.1 e.2.2.1 (q_pty e.2.2.2) := fun _ h => absurd h List.not_mem_nil
theorem alLP_8 : ∀ e ∈ ((q_LP[8]?).getD []), q_pok (q_cs 8) e.1 e.2.1 e.2.2.1 (q_pty e.2.2.2) := List.forall_mem_cons.mpr ⟨rLP_8_15_8_1_0, List.forall_mem_cons.mpr ⟨rLP_8_19_8_2_0, fun _ h => absurd h List.not_mem_nil⟩⟩
theorem alLP_9 : ∀ e ∈ ((q_LP[9]?).getD []), q_pok (q_cs 9) e.1 e.2.1 e.2.2.1 (q_pty e.2.2.2) := fun _ h => absurd h List.not_mem_nil
theorem alLP_10 : ∀ e ∈ ((q_LP[10]?).getD []), q_pok (q_cs 10) e.1 e.2.1 e.2.2.1 (q_pty e.2.2.2) := List.forall_mem_cons.mpr ⟨rLP_10_18_10_1_0, List.forall_mem_cons.mpr ⟨rLP_10_30_10_2_0, fun _ h => absurd h List.not_mem_nil⟩⟩
theorem alLP_11 : ∀ e ∈ ((q_LP[11]?).getD []), q_pok (q_cs 11) e.1 e.2.1 e.2.2.1 (q_pty e.2.2.2) := List.forall_mem_cons.mpr ⟨rLP_11_95_4_6_0, List.forall_mem_cons.mpr ⟨rLP_11_106_4_7_0, List.forall_mem_cons.mpr ⟨rLP_11_109_4_8_0, List.forall_mem_cons.mpr ⟨rLP_11_244_5_3_0, List.forall_mem_cons.mpr ⟨rLP_11_274_10_1_0, List.forall_mem_cons.mpr ⟨rLP_11_309_11_1_2, List.forall_mem_cons.mpr ⟨rLP_11_337_11_5_4, List.forall_mem_cons.mpr ⟨rLP_11_361_10_2_0, fun _ h => absurd h List.not_mem_nil⟩⟩⟩⟩⟩⟩⟩⟩
theorem alLP_12 : ∀ e ∈ ((q_LP[12]?).getD []), q_pok (q_cs 12) e.1 e.2.1 e.2.2.1 (q_pty e.2.2.2) := List.forall_mem_cons.mpr ⟨rLP_12_115_12_45_0, List.forall_mem_cons.mpr ⟨rLP_12_119_12_0_0, List.forall_mem_cons.mpr ⟨rLP_12_130_12_1_0, List.forall_mem_cons.mpr ⟨rLP_12_137_12_2_0, List.forall_mem_cons.mpr ⟨rLP_12_166_12_20_0, List.forall_mem_cons.mpr ⟨rLP_12_169_12_21_0, List.forall_mem_cons.mpr ⟨rLP_12_247_12_26_0, List.forall_mem_cons.mpr ⟨rLP_12_257_12_35_0, List.forall_mem_cons.mpr ⟨rLP_12_260_12_36_0, List.forall_mem_cons.mpr ⟨rLP_12_269_12_37_0, List.forall_mem_cons.mpr ⟨rLP_12_291_12_39_0, List.forall_mem_cons.mpr ⟨rLP_12_306_12_46_4, List.forall_mem_cons.mpr ⟨rLP_12_310_12_44_0, fun _ h => absurd h List.not_mem_nil⟩⟩⟩⟩⟩⟩⟩⟩⟩⟩⟩⟩⟩
theorem alLP_13 : ∀ e ∈ ((q_LP[13]?).getD []), q_pok (q_cs 13) e.1 e.2.1 e.2.2.1 (q_pty e.2.2.2) := fun _ h => absurd h List.not_mem_nil
theorem alLP_14 : ∀ e ∈ ((q_LP[14]?).getD []), q_pok (q_cs 14) e.1 e.2.1 e.2.2.1 (q_pty e.2.2.2) := fun _ h => absurd h List.not_mem_nil
theorem alLP (o : Nat) : ∀ e ∈ ((q_LP[o]?).getD []), q_pok (q_cs o) e.1 e.2.1 e.2.2.1 (q_pty e.2.2.2) := by
  by_cases ho : o < 15
  · rcases (show o = 0 ∨ o = 1 ∨ o = 2 ∨ o = 3 ∨ o = 4 ∨ o = 5 ∨ o = 6 ∨ o = 7 ∨ o = 8 ∨ o = 9 ∨ o = 10 ∨ o = 11 ∨ o = 12 ∨ o = 13 ∨ o = 14 by omega) with rfl | rfl | rfl | rfl | rfl | rfl | rfl | rfl | rfl | rfl | rfl | rfl | rfl | rfl | rfl
    · exact alLP_0
    · exact alLP_1
    · exact alLP_2
    · exact alLP_3
    · exact alLP_4
    · exact alLP_5
    · exact alLP_6
    · exact alLP_7
    · exact alLP_8
    · exact alLP_9
    · exact alLP_10
    · exact alLP_11
    · exact alLP_12
    · exact alLP_13
    · exact alLP_14
  · rw [List.getElem?_eq_none (by simp [q_LP]; omega)]
    intro e h
    cases h
theorem alLS_0 : ∀ e ∈ ((q_LS[0]?).getD []), q_okS (q_cs 0) e.1 e.2.1 e.2.2 := fun _ h => absurd h List.not_mem_nil
theorem alLS_1 : ∀ e ∈ ((q_LS[1]?).getD []), q_okS (q_cs 1) e.1 e.2.1 e.2.2 := fun _ h => absurd h List.not_mem_nil
theorem alLS_2 : ∀ e ∈ ((q_LS[2]?).getD []), q_okS (q_cs 2) e.1 e.2.1 e.2.2 := fun _ h => absurd h List.not_mem_nil
theorem alLS_3 : ∀ e ∈ ((q_LS[3]?).getD []), q_okS (q_cs 3) e.1 e.2.1 e.2.2 := fun _ h => absurd h List.not_mem_nil
theorem alLS_4 : ∀ e ∈ ((q_LS[4]?).getD []), q_okS (q_cs 4) e.1 e.2.1 e.2.2 := List.forall_mem_cons.mpr ⟨rLS_4_58_105, fun _ h => absurd h List.not_mem_nil⟩
theorem alLS_5 : ∀ e ∈ ((q_LS[5]?).getD []), q_okS (q_cs 5) e.1 e.2.1 e.2.2 := fun _ h => absurd h List.not_mem_nil
theorem alLS_6 : ∀ e ∈ ((q_LS[6]?).getD []), q_okS (q_cs 6) e.1 e.2.1 e.2.2 := List.forall_mem_cons.mpr ⟨rLS_6_57_209, List.forall_mem_cons.mpr ⟨rLS_6_65_210, fun _ h => absurd h List.not_mem_nil⟩⟩
theorem alLS_7 : ∀ e ∈ ((q_LS[7]?).getD []), q_okS (q_cs 7) e.1 e.2.1 e.2.2 := fun _ h => absurd h List.not_mem_nil
theorem alLS_8 : ∀ e ∈ ((q_LS[8]?).getD []), q_okS (q_cs 8) e.1 e.2.1 e.2.2 := fun _ h => absurd h List.not_mem_nil
theorem alLS_9 : ∀ e ∈ ((q_LS[9]?).getD []), q_okS (q_cs 9) e.1 e.2.1 e.2.2 := List.forall_mem_cons.mpr ⟨rLS_9_11_208, fun _ h => absurd h List.not_mem_nil⟩
theorem alLS_10 : ∀ e ∈ ((q_LS[10]?).getD []), q_okS (q_cs 10) e.1 e.2.1 e.2.2 := List.forall_mem_cons.mpr ⟨rLS_10_22_56, List.forall_mem_cons.mpr ⟨rLS_10_26_57, fun _ h => absurd h List.not_mem_nil⟩⟩
theorem alLS_11 : ∀ e ∈ ((q_LS[11]?).getD []), q_okS (q_cs 11) e.1 e.2.1 e.2.2 := List.forall_mem_cons.mpr ⟨rLS_11_87_104, List.forall_mem_cons.mpr ⟨rLS_11_91_105, List.forall_mem_cons.mpr ⟨rLS_11_158_107, List.forall_mem_cons.mpr ⟨rLS_11_182_106, List.forall_mem_cons.mpr ⟨rLS_11_189_108, List.forall_mem_cons.mpr ⟨rLS_11_218_109, List.forall_mem_cons.mpr ⟨rLS_11_331_110, fun _ h => absurd h List.not_mem_nil⟩⟩⟩⟩⟩⟩⟩
theorem alLS_12 : ∀ e ∈ ((q_LS[12]?).getD []), q_okS (q_cs 12) e.1 e.2.1 e.2.2 := List.forall_mem_cons.mpr ⟨rLS_12_122_120, List.forall_mem_cons.mpr ⟨rLS_12_126_123, List.forall_mem_cons.mpr ⟨rLS_12_147_129, List.forall_mem_cons.mpr ⟨rLS_12_185_141, List.forall_mem_cons.mpr ⟨rLS_12_188_142, List.forall_mem_cons.mpr ⟨rLS_12_209_124, List.forall_mem_cons.mpr ⟨rLS_12_218_158, List.forall_mem_cons.mpr ⟨rLS_12_228_168, List.forall_mem_cons.mpr ⟨rLS_12_231_169, List.forall_mem_cons.mpr ⟨rLS_12_266_187, fun _ h => absurd h List.not_mem_nil⟩⟩⟩⟩⟩⟩⟩⟩⟩⟩
theorem alLS_13 : ∀ e ∈ ((q_LS[13]?).getD []), q_okS (q_cs 13) e.1 e.2.1 e.2.2 := fun _ h => absurd h List.not_mem_nil
theorem alLS_14 : ∀ e ∈ ((q_LS[14]?).getD []), q_okS (q_cs 14) e.1 e.2.1 e.2.2 := fun _ h => absurd h List.not_mem_nil
theorem alLS (o : Nat) : ∀ e ∈ ((q_LS[o]?).getD []), q_okS (q_cs o) e.1 e.2.1 e.2.2 := by
  by_cases ho : o < 15
  · rcases (show o = 0 ∨ o = 1 ∨ o = 2 ∨ o = 3 ∨ o = 4 ∨ o = 5 ∨ o = 6 ∨ o = 7 ∨ o = 8 ∨ o = 9 ∨ o = 10 ∨ o = 11 ∨ o = 12 ∨ o = 13 ∨ o = 14 by omega) with rfl | rfl | rfl | rfl | rfl | rfl | rfl | rfl | rfl | rfl | rfl | rfl | rfl | rfl | rfl
    · exact alLS_0
    · exact alLS_1
    · exact alLS_2
    · exact alLS_3
    · exact alLS_4
    · exact alLS_5
    · exact alLS_6
    · exact alLS_7
    · exact alLS_8
    · exact alLS_9
    · exact alLS_10
    · exact alLS_11
    · exact alLS_12
    · exact alLS_13
    · exact alLS_14
  · rw [List.getElem?_eq_none (by simp [q_LS]; omega)]
    intro e h
    cases h
theorem alLV_0 : ∀ e ∈ ((q_LV[0]?).getD []), q_okV (q_cs 0) e.1 (q_cs e.2.1) e.2.2.1 e.2.2.2 := List.forall_mem_cons.mpr ⟨rLV_0_31_0_2, List.forall_mem_cons.mpr ⟨rLV_0_40_4_24, fun _ h => absurd h List.not_mem_nil⟩⟩
theorem alLV_1 : ∀ e ∈ ((q_LV[1]?).getD []), q_okV (q_cs 1) e.1 (q_cs e.2.1) e.2.2.1 e.2.2.2 := List.forall_mem_cons.mpr ⟨rLV_1_11_1_9, fun _ h => absurd h List.not_mem_nil⟩
theorem alLV_2 : ∀ e ∈ ((q_LV[2]?).getD []), q_okV (q_cs 2) e.1 (q_cs e.2.1) e.2.2.1 e.2.2.2 := List.forall_mem_cons.mpr ⟨rLV_2_25_1_9, List.forall_mem_cons.mpr ⟨rLV_2_25_2_9, List.forall_mem_cons.mpr ⟨rLV_2_25_3_9, List.forall_mem_cons.mpr ⟨rLV_2_25_7_9, List.forall_mem_cons.mpr ⟨rLV_2_25_9_9, List.forall_mem_cons.mpr ⟨rLV_2_29_1_7, List.forall_mem_cons.mpr ⟨rLV_2_29_2_11, List.forall_mem_cons.mpr ⟨rLV_2_29_3_15, List.forall_mem_cons.mpr ⟨rLV_2_29_7_11, List.forall_mem_cons.mpr ⟨rLV_2_29_9_15, List.forall_mem_cons.mpr ⟨rLV_2_33_1_47, List.forall_mem_cons.mpr ⟨rLV_2_33_2_12, List.forall_mem_cons.mpr ⟨rLV_2_33_3_12, List.forall_mem_cons.mpr ⟨rLV_2_33_7_47, List.forall_mem_cons.mpr ⟨rLV_2_33_9_54, fun _ h => absurd h List.not_mem_nil⟩⟩⟩⟩⟩⟩⟩⟩⟩⟩⟩⟩⟩⟩⟩
theorem alLV_3 : ∀ e ∈ ((q_LV[3]?).getD []), q_okV (q_cs 3) e.1 (q_cs e.2.1) e.2.2.1 e.2.2.2 := List.forall_mem_cons.mpr ⟨rLV_3_7_3_9, List.forall_mem_cons.mpr ⟨rLV_3_7_9_9, fun _ h => absurd h List.not_mem_nil⟩⟩
theorem alLV_4 : ∀ e ∈ ((q_LV[4]?).getD []), q_okV (q_cs 4) e.1 (q_cs e.2.1) e.2.2.1 e.2.2.2 := List.forall_mem_cons.mpr ⟨rLV_4_47_4_19, List.forall_mem_cons.mpr ⟨rLV_4_51_4_20, List.forall_mem_cons.mpr ⟨rLV_4_54_4_21, List.forall_mem_cons.mpr ⟨rLV_4_61_4_26, List.forall_mem_cons.mpr ⟨rLV_4_65_4_25, List.forall_mem_cons.mpr ⟨rLV_4_68_1_5, List.forall_mem_cons.mpr ⟨rLV_4_68_2_10, List.forall_mem_cons.mpr ⟨rLV_4_68_3_14, List.forall_mem_cons.mpr ⟨rLV_4_68_7_46, List.forall_mem_cons.mpr ⟨rLV_4_68_9_53, List.forall_mem_cons.mpr ⟨rLV_4_74_4_28, List.forall_mem_cons.mpr ⟨rLV_4_77_4_27, List.forall_mem_cons.mpr ⟨rLV_4_80_4_30, List.forall_mem_cons.mpr ⟨rLV_4_83_4_31, List.forall_mem_cons.mpr ⟨rLV_4_86_4_29, fun _ h => absurd h List.not_mem_nil⟩⟩⟩⟩⟩⟩⟩⟩⟩⟩⟩⟩⟩⟩⟩
theorem alLV_5 : ∀ e ∈ ((q_LV[5]?).getD []), q_okV (q_cs 5) e.1 (q_cs e.2.1) e.2.2.1 e.2.2.2 := fun _ h => absurd h List.not_mem_nil
theorem alLV_6 : ∀ e ∈ ((q_LV[6]?).getD []), q_okV (q_cs 6) e.1 (q_cs e.2.1) e.2.2.1 e.2.2.2 := List.forall_mem_cons.mpr ⟨rLV_6_33_4_29, List.forall_mem_cons.mpr ⟨rLV_6_37_4_32, List.forall_mem_cons.mpr ⟨rLV_6_39_4_31, List.forall_mem_cons.mpr ⟨rLV_6_42_6_38, List.forall_mem_cons.mpr ⟨rLV_6_46_6_39, List.forall_mem_cons.mpr ⟨rLV_6_50_6_40, List.forall_mem_cons.mpr ⟨rLV_6_68_6_42, List.forall_mem_cons.mpr ⟨rLV_6_72_6_37, fun _ h => absurd h List.not_mem_nil⟩⟩⟩⟩⟩⟩⟩⟩
theorem alLV_7 : ∀ e ∈ ((q_LV[7]?).getD []), q_okV (q_cs 7) e.1 (q_cs e.2.1) e.2.2.1 e.2.2.2 := List.forall_mem_cons.mpr ⟨rLV_7_7_1_9, List.forall_mem_cons.mpr ⟨rLV_7_7_7_9, fun _ h => absurd h List.not_mem_nil⟩⟩
theorem alLV_8 : ∀ e ∈ ((q_LV[8]?).getD []), q_okV (q_cs 8) e.1 (q_cs e.2.1) e.2.2.1 e.2.2.2 := fun _ h => absurd h List.not_mem_nil
theorem alLV_9 : ∀ e ∈ ((q_LV[9]?).getD []), q_okV (q_cs 9) e.1 (q_cs e.2.1) e.2.2.1 e.2.2.2 := List.forall_mem_cons.mpr ⟨rLV_9_16_9_9, List.forall_mem_cons.mpr ⟨rLV_9_26_9_15, fun _ h => absurd h List.not_mem_nil⟩⟩
theorem alLV_10 : ∀ e ∈ ((q_LV[10]?).getD []), q_okV (q_cs 10) e.1 (q_cs e.2.1) e.2.2.1 e.2.2.2 := List.forall_mem_cons.mpr ⟨rLV_10_33_10_60, fun _ h => absurd h List.not_mem_nil⟩
theorem alLV_11 : ∀ e ∈ ((q_LV[11]?).getD []), q_okV (q_cs 11) e.1 (q_cs e.2.1) e.2.2.1 e.2.2.2 := List.forall_mem_cons.mpr ⟨rLV_11_99_0_0, List.forall_mem_cons.mpr ⟨rLV_11_102_4_17, List.forall_mem_cons.mpr ⟨rLV_11_112_4_22, List.forall_mem_cons.mpr ⟨rLV_11_115_4_23, List.forall_mem_cons.mpr ⟨rLV_11_119_4_24, List.forall_mem_cons.mpr ⟨rLV_11_123_0_1, List.forall_mem_cons.mpr ⟨rLV_11_127_4_21, List.forall_mem_cons.mpr ⟨rLV_11_130_4_20, List.forall_mem_cons.mpr ⟨rLV_11_133_4_31, List.forall_mem_cons.mpr ⟨rLV_11_137_4_19, List.forall_mem_cons.mpr ⟨rLV_11_143_4_28, List.forall_mem_cons.mpr ⟨rLV_11_146_4_29, List.forall_mem_cons.mpr ⟨rLV_11_149_4_30, List.forall_mem_cons.mpr ⟨rLV_11_152_4_27, List.forall_mem_cons.mpr ⟨rLV_11_155_4_32, List.forall_mem_cons.mpr ⟨rLV_11_161_6_36, List.forall_mem_cons.mpr ⟨rLV_11_165_6_37, List.forall_mem_cons.mpr ⟨rLV_11_168_6_40, List.forall_mem_cons.mpr ⟨rLV_11_171_6_38, List.forall_mem_cons.mpr ⟨rLV_11_175_6_41, List.forall_mem_cons.mpr ⟨rLV_11_178_6_42, List.forall_mem_cons.mpr ⟨rLV_11_185_11_112, List.forall_mem_cons.mpr ⟨rLV_11_193_6_45, List.forall_mem_cons.mpr ⟨rLV_11_196_6_43, List.forall_mem_cons.mpr ⟨rLV_11_199_4_16, List.forall_mem_cons.mpr ⟨rLV_11_202_11_114, List.forall_mem_cons.mpr ⟨rLV_11_205_11_113, List.forall_mem_cons.mpr ⟨rLV_11_214_4_18, List.forall_mem_cons.mpr ⟨rLV_11_221_8_48, List.forall_mem_cons.mpr ⟨rLV_11_228_11_117, List.forall_mem_cons.mpr ⟨rLV_11_232_11_116, List.forall_mem_cons.mpr ⟨rLV_11_240_6_44, List.forall_mem_cons.mpr ⟨rLV_11_247_5_34, List.forall_mem_cons.mpr ⟨rLV_11_258_11_64, List.forall_mem_cons.mpr ⟨rLV_11_264_0_3, List.forall_mem_cons.mpr ⟨rLV_11_271_0_4, List.forall_mem_cons.mpr ⟨rLV_11_277_10_55, List.forall_mem_cons.mpr ⟨rLV_11_279_10_58, List.forall_mem_cons.mpr ⟨rLV_11_282_11_118, List.forall_mem_cons.mpr ⟨rLV_11_285_8_49, List.forall_mem_cons.mpr ⟨rLV_11_289_8_50, List.forall_mem_cons.mpr ⟨rLV_11_291_8_52, List.forall_mem_cons.mpr ⟨rLV_11_300_8_51, List.forall_mem_cons.mpr ⟨rLV_11_313_1_8, List.forall_mem_cons.mpr ⟨rLV_11_313_2_8, List.forall_mem_cons.mpr ⟨rLV_11_313_3_8, List.forall_mem_cons.mpr ⟨rLV_11_313_7_8, List.forall_mem_cons.mpr ⟨rLV_11_313_9_8, List.forall_mem_cons.mpr ⟨rLV_11_316_1_7, List.forall_mem_cons.mpr ⟨rLV_11_316_2_11, List.forall_mem_cons.mpr ⟨rLV_11_316_3_15, List.forall_mem_cons.mpr ⟨rLV_11_316_7_11, List.forall_mem_cons.mpr ⟨rLV_11_316_9_15, List.forall_mem_cons.mpr ⟨rLV_11_319_1_47, List.forall_mem_cons.mpr ⟨rLV_11_319_2_12, List.forall_mem_cons.mpr ⟨rLV_11_319_3_12, List.forall_mem_cons.mpr ⟨rLV_11_319_7_47, List.forall_mem_cons.mpr ⟨rLV_11_319_9_54, List.forall_mem_cons.mpr ⟨rLV_11_322_1_6, List.forall_mem_cons.mpr ⟨rLV_11_322_2_13, List.forall_mem_cons.mpr ⟨rLV_11_322_3_13, List.forall_mem_cons.mpr ⟨rLV_11_322_7_13, List.forall_mem_cons.mpr ⟨rLV_11_322_9_13, List.forall_mem_cons.mpr ⟨rLV_11_334_5_35, List.forall_mem_cons.mpr ⟨rLV_11_341_4_33, List.forall_mem_cons.mpr ⟨rLV_11_345_4_25, List.forall_mem_cons.mpr ⟨rLV_11_348_11_111, List.forall_mem_cons.mpr ⟨rLV_11_357_11_115, List.forall_mem_cons.mpr ⟨rLV_11_364_10_59, List.forall_mem_cons.mpr ⟨rLV_11_367_11_119, List.forall_mem_cons.mpr ⟨rLV_11_373_11_61, List.forall_mem_cons.mpr ⟨rLV_11_376_11_62, fun _ h => absurd h List.not_mem_nil⟩⟩⟩⟩⟩⟩⟩⟩⟩⟩⟩⟩⟩⟩⟩⟩⟩⟩⟩⟩⟩⟩⟩⟩⟩⟩⟩⟩⟩⟩⟩⟩⟩⟩⟩⟩⟩⟩⟩⟩⟩⟩⟩⟩⟩⟩⟩⟩⟩⟩⟩⟩⟩⟩⟩⟩⟩⟩⟩⟩⟩⟩⟩⟩⟩⟩⟩⟩⟩⟩⟩⟩
theorem alLV_12 : ∀ e ∈ ((q_LV[12]?).getD []), q_okV (q_cs 12) e.1 (q_cs e.2.1) e.2.2.1 e.2.2.2 := List.forall_mem_cons.mpr ⟨rLV_12_133_12_125, List.forall_mem_cons.mpr ⟨rLV_12_144_12_128, List.forall_mem_cons.mpr ⟨rLV_12_151_12_130, List.forall_mem_cons.mpr ⟨rLV_12_155_12_126, List.forall_mem_cons.mpr ⟨rLV_12_158_12_132, List.forall_mem_cons.mpr ⟨rLV_12_162_12_131, List.forall_mem_cons.mpr ⟨rLV_12_172_12_134, List.forall_mem_cons.mpr ⟨rLV_12_175_12_121, List.forall_mem_cons.mpr ⟨rLV_12_178_12_122, List.forall_mem_cons.mpr ⟨rLV_12_181_12_140, List.forall_mem_cons.mpr ⟨rLV_12_191_12_127, List.forall_mem_cons.mpr ⟨rLV_12_194_12_143, List.forall_mem_cons.mpr ⟨rLV_12_198_12_138, List.forall_mem_cons.mpr ⟨rLV_12_201_12_144, List.forall_mem_cons.mpr ⟨rLV_12_205_12_139, List.forall_mem_cons.mpr ⟨rLV_12_212_12_155, List.forall_mem_cons.mpr ⟨rLV_12_215_12_133, List.forall_mem_cons.mpr ⟨rLV_12_221_12_159, List.forall_mem_cons.mpr ⟨rLV_12_224_12_165, List.forall_mem_cons.mpr ⟨rLV_12_237_12_177, List.forall_mem_cons.mpr ⟨rLV_12_240_12_178, List.forall_mem_cons.mpr ⟨rLV_12_244_12_175, List.forall_mem_cons.mpr ⟨rLV_12_250_12_202, List.forall_mem_cons.mpr ⟨rLV_12_254_12_145, List.forall_mem_cons.mpr ⟨rLV_12_263_12_186, List.forall_mem_cons.mpr ⟨rLV_12_272_12_188, List.forall_mem_cons.mpr ⟨rLV_12_275_12_189, List.forall_mem_cons.mpr ⟨rLV_12_279_12_135, List.forall_mem_cons.mpr ⟨rLV_12_282_12_136, List.forall_mem_cons.mpr ⟨rLV_12_285_12_190, List.forall_mem_cons.mpr ⟨rLV_12_288_12_191, List.forall_mem_cons.mpr ⟨rLV_12_294_12_193, List.forall_mem_cons.mpr ⟨rLV_12_297_12_194, List.forall_mem_cons.mpr ⟨rLV_12_300_12_195, List.forall_mem_cons.mpr ⟨rLV_12_303_12_196, List.forall_mem_cons.mpr ⟨rLV_12_313_12_200, List.forall_mem_cons.mpr ⟨rLV_12_316_12_201, List.forall_mem_cons.mpr ⟨rLV_12_320_12_206, fun _ h => absurd h List.not_mem_nil⟩⟩⟩⟩⟩⟩⟩⟩⟩⟩⟩⟩⟩⟩⟩⟩⟩⟩⟩⟩⟩⟩⟩⟩⟩⟩⟩⟩⟩⟩⟩⟩⟩⟩⟩⟩⟩⟩
theorem alLV_13 : ∀ e ∈ ((q_LV[13]?).getD []), q_okV (q_cs 13) e.1 (q_cs e.2.1) e.2.2.1 e.2.2.2 := fun _ h => absurd h List.not_mem_nil
theorem alLV_14 : ∀ e ∈ ((q_LV[14]?).getD []), q_okV (q_cs 14) e.1 (q_cs e.2.1) e.2.2.1 e.2.2.2 := List.forall_mem_cons.mpr ⟨rLV_14_13_11_61, List.forall_mem_cons.mpr ⟨rLV_14_17_12_135, List.forall_mem_cons.mpr ⟨rLV_14_18_11_62, List.forall_mem_cons.mpr ⟨rLV_14_22_12_136, List.forall_mem_cons.mpr ⟨rLV_14_23_11_63, List.forall_mem_cons.mpr ⟨rLV_14_26_12_137, List.forall_mem_cons.mpr ⟨rLV_14_27_11_64, List.forall_mem_cons.mpr ⟨rLV_14_30_12_145, List.forall_mem_cons.mpr ⟨rLV_14_31_11_65, List.forall_mem_cons.mpr ⟨rLV_14_35_12_148, List.forall_mem_cons.mpr ⟨rLV_14_36_11_66, List.forall_mem_cons.mpr ⟨rLV_14_39_12_149, List.forall_mem_cons.mpr ⟨rLV_14_40_11_67, List.forall_mem_cons.mpr ⟨rLV_14_43_12_150, List.forall_mem_cons.mpr ⟨rLV_14_44_11_68, List.forall_mem_cons.mpr ⟨rLV_14_47_12_151, List.forall_mem_cons.mpr ⟨rLV_14_48_11_69, List.forall_mem_cons.mpr ⟨rLV_14_51_12_152, List.forall_mem_cons.mpr ⟨rLV_14_52_11_70, List.forall_mem_cons.mpr ⟨rLV_14_55_12_153, List.forall_mem_cons.mpr ⟨rLV_14_56_11_71, List.forall_mem_cons.mpr ⟨rLV_14_59_12_154, List.forall_mem_cons.mpr ⟨rLV_14_60_11_72, List.forall_mem_cons.mpr ⟨rLV_14_63_12_156, List.forall_mem_cons.mpr ⟨rLV_14_64_11_73, List.forall_mem_cons.mpr ⟨rLV_14_67_12_157, List.forall_mem_cons.mpr ⟨rLV_14_68_11_74, List.forall_mem_cons.mpr ⟨rLV_14_71_12_160, List.forall_mem_cons.mpr ⟨rLV_14_72_11_75, List.forall_mem_cons.mpr ⟨rLV_14_75_12_161, List.forall_mem_cons.mpr ⟨rLV_14_76_11_76, List.forall_mem_cons.mpr ⟨rLV_14_80_12_162, List.forall_mem_cons.mpr ⟨rLV_14_81_11_77, List.forall_mem_cons.mpr ⟨rLV_14_85_12_163, List.forall_mem_cons.mpr ⟨rLV_14_86_11_78, List.forall_mem_cons.mpr ⟨rLV_14_89_12_164, List.forall_mem_cons.mpr ⟨rLV_14_90_11_79, List.forall_mem_cons.mpr ⟨rLV_14_93_12_166, List.forall_mem_cons.mpr ⟨rLV_14_94_11_80, List.forall_mem_cons.mpr ⟨rLV_14_98_12_167, List.forall_mem_cons.mpr ⟨rLV_14_99_11_81, List.forall_mem_cons.mpr ⟨rLV_14_102_12_176, List.forall_mem_cons.mpr ⟨rLV_14_103_11_82, List.forall_mem_cons.mpr ⟨rLV_14_106_12_179, List.forall_mem_cons.mpr ⟨rLV_14_107_11_83, List.forall_mem_cons.mpr ⟨rLV_14_110_12_180, List.forall_mem_cons.mpr ⟨rLV_14_111_11_84, List.forall_mem_cons.mpr ⟨rLV_14_114_12_181, List.forall_mem_cons.mpr ⟨rLV_14_115_11_85, List.forall_mem_cons.mpr ⟨rLV_14_118_12_182, List.forall_mem_cons.mpr ⟨rLV_14_119_11_86, List.forall_mem_cons.mpr ⟨rLV_14_122_12_183, List.forall_mem_cons.mpr ⟨rLV_14_123_11_87, List.forall_mem_cons.mpr ⟨rLV_14_126_12_146, List.forall_mem_cons.mpr ⟨rLV_14_127_11_88, List.forall_mem_cons.mpr ⟨rLV_14_130_12_147, List.forall_mem_cons.mpr ⟨rLV_14_131_11_89, List.forall_mem_cons.mpr ⟨rLV_14_134_12_184, List.forall_mem_cons.mpr ⟨rLV_14_135_11_90, List.forall_mem_cons.mpr ⟨rLV_14_138_12_185, List.forall_mem_cons.mpr ⟨rLV_14_139_11_91, List.forall_mem_cons.mpr ⟨rLV_14_142_12_192, List.forall_mem_cons.mpr ⟨rLV_14_143_11_92, List.forall_mem_cons.mpr ⟨rLV_14_146_12_170, List.forall_mem_cons.mpr ⟨rLV_14_149_11_93, List.forall_mem_cons.mpr ⟨rLV_14_153_12_171, List.forall_mem_cons.mpr ⟨rLV_14_154_11_94, List.forall_mem_cons.mpr ⟨rLV_14_158_12_172, List.forall_mem_cons.mpr ⟨rLV_14_159_11_95, List.forall_mem_cons.mpr ⟨rLV_14_162_12_173, List.forall_mem_cons.mpr ⟨rLV_14_163_11_96, List.forall_mem_cons.mpr ⟨rLV_14_166_12_174, List.forall_mem_cons.mpr ⟨rLV_14_167_11_97, List.forall_mem_cons.mpr ⟨rLV_14_170_12_197, List.forall_mem_cons.mpr ⟨rLV_14_171_11_98, List.forall_mem_cons.mpr ⟨rLV_14_174_12_198, List.forall_mem_cons.mpr ⟨rLV_14_175_11_99, List.forall_mem_cons.mpr ⟨rLV_14_178_12_199, List.forall_mem_cons.mpr ⟨rLV_14_179_11_100, List.forall_mem_cons.mpr ⟨rLV_14_182_12_203, List.forall_mem_cons.mpr ⟨rLV_14_183_11_101, List.forall_mem_cons.mpr ⟨rLV_14_186_12_204, List.forall_mem_cons.mpr ⟨rLV_14_187_11_102, List.forall_mem_cons.mpr ⟨rLV_14_190_12_205, List.forall_mem_cons.mpr ⟨rLV_14_191_11_103, List.forall_mem_cons.mpr ⟨rLV_14_194_12_207, fun _ h => absurd h List.not_mem_nil⟩⟩⟩⟩⟩⟩⟩⟩⟩⟩⟩⟩⟩⟩⟩⟩⟩⟩⟩⟩⟩⟩⟩⟩⟩⟩⟩⟩⟩⟩⟩⟩⟩⟩⟩⟩⟩⟩⟩⟩⟩⟩⟩⟩⟩⟩⟩⟩⟩⟩⟩⟩⟩⟩⟩⟩⟩⟩⟩⟩⟩⟩⟩⟩⟩⟩⟩⟩⟩⟩⟩⟩⟩⟩⟩⟩⟩⟩⟩⟩⟩⟩⟩⟩⟩⟩
theorem alLV (o : Nat) : ∀ e ∈ ((q_LV[o]?).getD []), q_okV (q_cs o) e.1 (q_cs e.2.1) e.2.2.1 e.2.2.2 := by
  by_cases ho : o < 15
  · rcases (show o = 0 ∨ o = 1 ∨ o = 2 ∨ o = 3 ∨ o = 4 ∨ o = 5 ∨ o = 6 ∨ o = 7 ∨ o = 8 ∨ o = 9 ∨ o = 10 ∨ o = 11 ∨ o = 12 ∨ o = 13 ∨ o = 14 by omega) with rfl | rfl | rfl | rfl | rfl | rfl | rfl | rfl | rfl | rfl | rfl | rfl | rfl | rfl | rfl
    · exact alLV_0
    · exact alLV_1
    · exact alLV_2
    · exact alLV_3
    · exact alLV_4
    · exact alLV_5
    · exact alLV_6
    · exact alLV_7
    · exact alLV_8
    · exact alLV_9
    · exact alLV_10
    · exact alLV_11
    · exact alLV_12
    · exact alLV_13
    · exact alLV_14
  · rw [List.getElem?_eq_none (by simp [q_LV]; omega)]
    intro e h
    cases h
theorem alLI_0 : ∀ e ∈ ((q_LI[0]?).getD []), q_okP (q_cs 0) e.1 e.2.1 e.2.2 := fun _ h => absurd h List.not_mem_nil
theorem alLI_1 : ∀ e ∈ ((q_LI[1]?).getD []), q_okP (q_cs 1) e.1 e.2.1 e.2.2 := List.forall_mem_cons.mpr ⟨rLI_1_7_46, List.forall_mem_cons.mpr ⟨rLI_1_17_13, List.forall_mem_cons.mpr ⟨rLI_1_21_11, fun _ h => absurd h List.not_mem_nil⟩⟩⟩
theorem alLI_2 : ∀ e ∈ ((q_LI[2]?).getD []), q_okP (q_cs 2) e.1 e.2.1 e.2.2 := fun _ h => absurd h List.not_mem_nil
theorem alLI_3 : ∀ e ∈ ((q_LI[3]?).getD []), q_okP (q_cs 3) e.1 e.2.1 e.2.2 := List.forall_mem_cons.mpr ⟨rLI_3_13_11, fun _ h => absurd h List.not_mem_nil⟩
theorem alLI_4 : ∀ e ∈ ((q_LI[4]?).getD []), q_okP (q_cs 4) e.1 e.2.1 e.2.2 := fun _ h => absurd h List.not_mem_nil
theorem alLI_5 : ∀ e ∈ ((q_LI[5]?).getD []), q_okP (q_cs 5) e.1 e.2.1 e.2.2 := fun _ h => absurd h List.not_mem_nil
theorem alLI_6 : ∀ e ∈ ((q_LI[6]?).getD []), q_okP (q_cs 6) e.1 e.2.1 e.2.2 := fun _ h => absurd h List.not_mem_nil
theorem alLI_7 : ∀ e ∈ ((q_LI[7]?).getD []), q_okP (q_cs 7) e.1 e.2.1 e.2.2 := List.forall_mem_cons.mpr ⟨rLI_7_13_12, fun _ h => absurd h List.not_mem_nil⟩
theorem alLI_8 : ∀ e ∈ ((q_LI[8]?).getD []), q_okP (q_cs 8) e.1 e.2.1 e.2.2 := fun _ h => absurd h List.not_mem_nil
theorem alLI_9 : ∀ e ∈ ((q_LI[9]?).getD []), q_okP (q_cs 9) e.1 e.2.1 e.2.2 := List.forall_mem_cons.mpr ⟨rLI_9_7_14, List.forall_mem_cons.mpr ⟨rLI_9_22_12, fun _ h => absurd h List.not_mem_nil⟩⟩
theorem alLI_10 : ∀ e ∈ ((q_LI[10]?).getD []), q_okP (q_cs 10) e.1 e.2.1 e.2.2 := fun _ h => absurd h List.not_mem_nil
theorem alLI_11 : ∀ e ∈ ((q_LI[11]?).getD []), q_okP (q_cs 11) e.1 e.2.1 e.2.2 := fun _ h => absurd h List.not_mem_nil
theorem alLI_12 : ∀ e ∈ ((q_LI[12]?).getD []), q_okP (q_cs 12) e.1 e.2.1 e.2.2 := fun _ h => absurd h List.not_mem_nil
theorem alLI_13 : ∀ e ∈ ((q_LI[13]?).getD []), q_okP (q_cs 13) e.1 e.2.1 e.2.2 := fun _ h => absurd h List.not_mem_nil
theorem alLI_14 : ∀ e ∈ ((q_LI[14]?).getD []), q_okP (q_cs 14) e.1 e.2.1 e.2.2 := fun _ h => absurd h List.not_mem_nil
theorem alLI (o : Nat) : ∀ e ∈ ((q_LI[o]?).getD []), q_okP (q_cs o) e.1 e.2.1 e.2.2 := by
  by_cases ho : o < 15
  · rcases (show o = 0 ∨ o = 1 ∨ o = 2 ∨ o = 3 ∨ o = 4 ∨ o = 5 ∨ o = 6 ∨ o = 7 ∨ o = 8 ∨ o = 9 ∨ o = 10 ∨ o = 11 ∨ o = 12 ∨ o = 13 ∨ o = 14 by omega) with rfl | rfl | rfl | rfl | rfl | rfl | rfl | rfl | rfl | rfl | rfl | rfl | rfl | rfl | rfl
    · exact alLI_0
    · exact alLI_1
    · exact alLI_2
    · exact alLI_3
    · exact alLI_4
    · exact alLI_5
    · exact alLI_6
    · exact alLI_7
    · exact alLI_8
    · exact alLI_9
    · exact alLI_10
    · exact alLI_11
    · exact alLI_12
    · exact alLI_13
    · exact alLI_14
  · rw [List.getElem?_eq_none (by simp [q_LI]; omega)]
    intro e h
    cases h
theorem alLC_0 : ∀ e ∈ ((q_LC[0]?).getD []), Cond.constantLong (q_cs 0) e.1 (Int64.ofNat e.2) ∈ q_TW := fun _ h => absurd h List.not_mem_nil
theorem alLC_1 : ∀ e ∈ ((q_LC[1]?).getD []), Cond.constantLong (q_cs 1) e.1 (Int64.ofNat e.2) ∈ q_TW := fun _ h => absurd h List.not_mem_nil
theorem alLC_2 : ∀ e ∈ ((q_LC[2]?).getD []), Cond.constantLong (q_cs 2) e.1 (Int64.ofNat e.2) ∈ q_TW := fun _ h => absurd h List.not_mem_nil
theorem alLC_3 : ∀ e ∈ ((q_LC[3]?).getD []), Cond.constantLong (q_cs 3) e.1 (Int64.ofNat e.2) ∈ q_TW := fun _ h => absurd h List.not_mem_nil
theorem alLC_4 : ∀ e ∈ ((q_LC[4]?).getD []), Cond.constantLong (q_cs 4) e.1 (Int64.ofNat e.2) ∈ q_TW := fun _ h => absurd h List.not_mem_nil
theorem alLC_5 : ∀ e ∈ ((q_LC[5]?).getD []), Cond.constantLong (q_cs 5) e.1 (Int64.ofNat e.2) ∈ q_TW := fun _ h => absurd h List.not_mem_nil
theorem alLC_6 : ∀ e ∈ ((q_LC[6]?).getD []), Cond.constantLong (q_cs 6) e.1 (Int64.ofNat e.2) ∈ q_TW := List.forall_mem_cons.mpr ⟨rLC_6_53, List.forall_mem_cons.mpr ⟨rLC_6_55, List.forall_mem_cons.mpr ⟨rLC_6_63, List.forall_mem_cons.mpr ⟨rLC_6_76, fun _ h => absurd h List.not_mem_nil⟩⟩⟩⟩
theorem alLC_7 : ∀ e ∈ ((q_LC[7]?).getD []), Cond.constantLong (q_cs 7) e.1 (Int64.ofNat e.2) ∈ q_TW := fun _ h => absurd h List.not_mem_nil
theorem alLC_8 : ∀ e ∈ ((q_LC[8]?).getD []), Cond.constantLong (q_cs 8) e.1 (Int64.ofNat e.2) ∈ q_TW := fun _ h => absurd h List.not_mem_nil
theorem alLC_9 : ∀ e ∈ ((q_LC[9]?).getD []), Cond.constantLong (q_cs 9) e.1 (Int64.ofNat e.2) ∈ q_TW := fun _ h => absurd h List.not_mem_nil
theorem alLC_10 : ∀ e ∈ ((q_LC[10]?).getD []), Cond.constantLong (q_cs 10) e.1 (Int64.ofNat e.2) ∈ q_TW := fun _ h => absurd h List.not_mem_nil
theorem alLC_11 : ∀ e ∈ ((q_LC[11]?).getD []), Cond.constantLong (q_cs 11) e.1 (Int64.ofNat e.2) ∈ q_TW := List.forall_mem_cons.mpr ⟨rLC_11_295, fun _ h => absurd h List.not_mem_nil⟩
theorem alLC_12 : ∀ e ∈ ((q_LC[12]?).getD []), Cond.constantLong (q_cs 12) e.1 (Int64.ofNat e.2) ∈ q_TW := List.forall_mem_cons.mpr ⟨rLC_12_140, List.forall_mem_cons.mpr ⟨rLC_12_142, List.forall_mem_cons.mpr ⟨rLC_12_235, fun _ h => absurd h List.not_mem_nil⟩⟩⟩
theorem alLC_13 : ∀ e ∈ ((q_LC[13]?).getD []), Cond.constantLong (q_cs 13) e.1 (Int64.ofNat e.2) ∈ q_TW := fun _ h => absurd h List.not_mem_nil
theorem alLC_14 : ∀ e ∈ ((q_LC[14]?).getD []), Cond.constantLong (q_cs 14) e.1 (Int64.ofNat e.2) ∈ q_TW := List.forall_mem_cons.mpr ⟨rLC_14_147, fun _ h => absurd h List.not_mem_nil⟩
theorem alLC (o : Nat) : ∀ e ∈ ((q_LC[o]?).getD []), Cond.constantLong (q_cs o) e.1 (Int64.ofNat e.2) ∈ q_TW := by
  by_cases ho : o < 15
  · rcases (show o = 0 ∨ o = 1 ∨ o = 2 ∨ o = 3 ∨ o = 4 ∨ o = 5 ∨ o = 6 ∨ o = 7 ∨ o = 8 ∨ o = 9 ∨ o = 10 ∨ o = 11 ∨ o = 12 ∨ o = 13 ∨ o = 14 by omega) with rfl | rfl | rfl | rfl | rfl | rfl | rfl | rfl | rfl | rfl | rfl | rfl | rfl | rfl | rfl
    · exact alLC_0
    · exact alLC_1
    · exact alLC_2
    · exact alLC_3
    · exact alLC_4
    · exact alLC_5
    · exact alLC_6
    · exact alLC_7
    · exact alLC_8
    · exact alLC_9
    · exact alLC_10
    · exact alLC_11
    · exact alLC_12
    · exact alLC_13
    · exact alLC_14
  · rw [List.getElem?_eq_none (by simp [q_LC]; omega)]
    intro e h
    cases h
def q_sn (a : Nat) : String := match a with
  | 102 => "ABOVE"
  | 103 => "LEAST"
  | _ => "MOST"
theorem alLG_0 : ∀ e ∈ ((q_LG[0]?).getD []), (Cond.fieldLink (q_cs 0) e.1 "WhirlShafts" (q_sn e.2) "[I" ∈ q_TW ∧ (e.2 = 102 ∨ e.2 = 103 ∨ e.2 = 104)) := fun _ h => absurd h List.not_mem_nil
theorem alLG_1 : ∀ e ∈ ((q_LG[1]?).getD []), (Cond.fieldLink (q_cs 1) e.1 "WhirlShafts" (q_sn e.2) "[I" ∈ q_TW ∧ (e.2 = 102 ∨ e.2 = 103 ∨ e.2 = 104)) := fun _ h => absurd h List.not_mem_nil
theorem alLG_2 : ∀ e ∈ ((q_LG[2]?).getD []), (Cond.fieldLink (q_cs 2) e.1 "WhirlShafts" (q_sn e.2) "[I" ∈ q_TW ∧ (e.2 = 102 ∨ e.2 = 103 ∨ e.2 = 104)) := fun _ h => absurd h List.not_mem_nil
theorem alLG_3 : ∀ e ∈ ((q_LG[3]?).getD []), (Cond.fieldLink (q_cs 3) e.1 "WhirlShafts" (q_sn e.2) "[I" ∈ q_TW ∧ (e.2 = 102 ∨ e.2 = 103 ∨ e.2 = 104)) := fun _ h => absurd h List.not_mem_nil
theorem alLG_4 : ∀ e ∈ ((q_LG[4]?).getD []), (Cond.fieldLink (q_cs 4) e.1 "WhirlShafts" (q_sn e.2) "[I" ∈ q_TW ∧ (e.2 = 102 ∨ e.2 = 103 ∨ e.2 = 104)) := fun _ h => absurd h List.not_mem_nil
theorem alLG_5 : ∀ e ∈ ((q_LG[5]?).getD []), (Cond.fieldLink (q_cs 5) e.1 "WhirlShafts" (q_sn e.2) "[I" ∈ q_TW ∧ (e.2 = 102 ∨ e.2 = 103 ∨ e.2 = 104)) := fun _ h => absurd h List.not_mem_nil
theorem alLG_6 : ∀ e ∈ ((q_LG[6]?).getD []), (Cond.fieldLink (q_cs 6) e.1 "WhirlShafts" (q_sn e.2) "[I" ∈ q_TW ∧ (e.2 = 102 ∨ e.2 = 103 ∨ e.2 = 104)) := fun _ h => absurd h List.not_mem_nil
theorem alLG_7 : ∀ e ∈ ((q_LG[7]?).getD []), (Cond.fieldLink (q_cs 7) e.1 "WhirlShafts" (q_sn e.2) "[I" ∈ q_TW ∧ (e.2 = 102 ∨ e.2 = 103 ∨ e.2 = 104)) := fun _ h => absurd h List.not_mem_nil
theorem alLG_8 : ∀ e ∈ ((q_LG[8]?).getD []), (Cond.fieldLink (q_cs 8) e.1 "WhirlShafts" (q_sn e.2) "[I" ∈ q_TW ∧ (e.2 = 102 ∨ e.2 = 103 ∨ e.2 = 104)) := fun _ h => absurd h List.not_mem_nil
theorem alLG_9 : ∀ e ∈ ((q_LG[9]?).getD []), (Cond.fieldLink (q_cs 9) e.1 "WhirlShafts" (q_sn e.2) "[I" ∈ q_TW ∧ (e.2 = 102 ∨ e.2 = 103 ∨ e.2 = 104)) := fun _ h => absurd h List.not_mem_nil
theorem alLG_10 : ∀ e ∈ ((q_LG[10]?).getD []), (Cond.fieldLink (q_cs 10) e.1 "WhirlShafts" (q_sn e.2) "[I" ∈ q_TW ∧ (e.2 = 102 ∨ e.2 = 103 ∨ e.2 = 104)) := fun _ h => absurd h List.not_mem_nil
theorem alLG_11 : ∀ e ∈ ((q_LG[11]?).getD []), (Cond.fieldLink (q_cs 11) e.1 "WhirlShafts" (q_sn e.2) "[I" ∈ q_TW ∧ (e.2 = 102 ∨ e.2 = 103 ∨ e.2 = 104)) := List.forall_mem_cons.mpr ⟨⟨rLG_11_9, (by decide)⟩, List.forall_mem_cons.mpr ⟨⟨rLG_11_351, (by decide)⟩, List.forall_mem_cons.mpr ⟨⟨rLG_11_354, (by decide)⟩, fun _ h => absurd h List.not_mem_nil⟩⟩⟩
theorem alLG_12 : ∀ e ∈ ((q_LG[12]?).getD []), (Cond.fieldLink (q_cs 12) e.1 "WhirlShafts" (q_sn e.2) "[I" ∈ q_TW ∧ (e.2 = 102 ∨ e.2 = 103 ∨ e.2 = 104)) := fun _ h => absurd h List.not_mem_nil
theorem alLG_13 : ∀ e ∈ ((q_LG[13]?).getD []), (Cond.fieldLink (q_cs 13) e.1 "WhirlShafts" (q_sn e.2) "[I" ∈ q_TW ∧ (e.2 = 102 ∨ e.2 = 103 ∨ e.2 = 104)) := fun _ h => absurd h List.not_mem_nil
theorem alLG_14 : ∀ e ∈ ((q_LG[14]?).getD []), (Cond.fieldLink (q_cs 14) e.1 "WhirlShafts" (q_sn e.2) "[I" ∈ q_TW ∧ (e.2 = 102 ∨ e.2 = 103 ∨ e.2 = 104)) := fun _ h => absurd h List.not_mem_nil
theorem alLG (o : Nat) : ∀ e ∈ ((q_LG[o]?).getD []), (Cond.fieldLink (q_cs o) e.1 "WhirlShafts" (q_sn e.2) "[I" ∈ q_TW ∧ (e.2 = 102 ∨ e.2 = 103 ∨ e.2 = 104)) := by
  by_cases ho : o < 15
  · rcases (show o = 0 ∨ o = 1 ∨ o = 2 ∨ o = 3 ∨ o = 4 ∨ o = 5 ∨ o = 6 ∨ o = 7 ∨ o = 8 ∨ o = 9 ∨ o = 10 ∨ o = 11 ∨ o = 12 ∨ o = 13 ∨ o = 14 by omega) with rfl | rfl | rfl | rfl | rfl | rfl | rfl | rfl | rfl | rfl | rfl | rfl | rfl | rfl | rfl
    · exact alLG_0
    · exact alLG_1
    · exact alLG_2
    · exact alLG_3
    · exact alLG_4
    · exact alLG_5
    · exact alLG_6
    · exact alLG_7
    · exact alLG_8
    · exact alLG_9
    · exact alLG_10
    · exact alLG_11
    · exact alLG_12
    · exact alLG_13
    · exact alLG_14
  · rw [List.getElem?_eq_none (by simp [q_LG]; omega)]
    intro e h
    cases h
theorem alLA_0 : ∀ e ∈ ((q_LA[0]?).getD []), Cond.methodLink (q_cs 0) e arraycopyName ∈ q_TW := List.forall_mem_cons.mpr ⟨rLA_0_34, fun _ h => absurd h List.not_mem_nil⟩
theorem alLA_1 : ∀ e ∈ ((q_LA[1]?).getD []), Cond.methodLink (q_cs 1) e arraycopyName ∈ q_TW := fun _ h => absurd h List.not_mem_nil
theorem alLA_2 : ∀ e ∈ ((q_LA[2]?).getD []), Cond.methodLink (q_cs 2) e arraycopyName ∈ q_TW := fun _ h => absurd h List.not_mem_nil
theorem alLA_3 : ∀ e ∈ ((q_LA[3]?).getD []), Cond.methodLink (q_cs 3) e arraycopyName ∈ q_TW := fun _ h => absurd h List.not_mem_nil
theorem alLA_4 : ∀ e ∈ ((q_LA[4]?).getD []), Cond.methodLink (q_cs 4) e arraycopyName ∈ q_TW := List.forall_mem_cons.mpr ⟨rLA_4_41, fun _ h => absurd h List.not_mem_nil⟩
theorem alLA_5 : ∀ e ∈ ((q_LA[5]?).getD []), Cond.methodLink (q_cs 5) e arraycopyName ∈ q_TW := List.forall_mem_cons.mpr ⟨rLA_5_25, fun _ h => absurd h List.not_mem_nil⟩
theorem alLA_6 : ∀ e ∈ ((q_LA[6]?).getD []), Cond.methodLink (q_cs 6) e arraycopyName ∈ q_TW := fun _ h => absurd h List.not_mem_nil
theorem alLA_7 : ∀ e ∈ ((q_LA[7]?).getD []), Cond.methodLink (q_cs 7) e arraycopyName ∈ q_TW := fun _ h => absurd h List.not_mem_nil
theorem alLA_8 : ∀ e ∈ ((q_LA[8]?).getD []), Cond.methodLink (q_cs 8) e arraycopyName ∈ q_TW := fun _ h => absurd h List.not_mem_nil
theorem alLA_9 : ∀ e ∈ ((q_LA[9]?).getD []), Cond.methodLink (q_cs 9) e arraycopyName ∈ q_TW := fun _ h => absurd h List.not_mem_nil
theorem alLA_10 : ∀ e ∈ ((q_LA[10]?).getD []), Cond.methodLink (q_cs 10) e arraycopyName ∈ q_TW := fun _ h => absurd h List.not_mem_nil
theorem alLA_11 : ∀ e ∈ ((q_LA[11]?).getD []), Cond.methodLink (q_cs 11) e arraycopyName ∈ q_TW := List.forall_mem_cons.mpr ⟨rLA_11_303, fun _ h => absurd h List.not_mem_nil⟩
theorem alLA_12 : ∀ e ∈ ((q_LA[12]?).getD []), Cond.methodLink (q_cs 12) e arraycopyName ∈ q_TW := fun _ h => absurd h List.not_mem_nil
theorem alLA_13 : ∀ e ∈ ((q_LA[13]?).getD []), Cond.methodLink (q_cs 13) e arraycopyName ∈ q_TW := fun _ h => absurd h List.not_mem_nil
theorem alLA_14 : ∀ e ∈ ((q_LA[14]?).getD []), Cond.methodLink (q_cs 14) e arraycopyName ∈ q_TW := fun _ h => absurd h List.not_mem_nil
theorem alLA (o : Nat) : ∀ e ∈ ((q_LA[o]?).getD []), Cond.methodLink (q_cs o) e arraycopyName ∈ q_TW := by
  by_cases ho : o < 15
  · rcases (show o = 0 ∨ o = 1 ∨ o = 2 ∨ o = 3 ∨ o = 4 ∨ o = 5 ∨ o = 6 ∨ o = 7 ∨ o = 8 ∨ o = 9 ∨ o = 10 ∨ o = 11 ∨ o = 12 ∨ o = 13 ∨ o = 14 by omega) with rfl | rfl | rfl | rfl | rfl | rfl | rfl | rfl | rfl | rfl | rfl | rfl | rfl | rfl | rfl
    · exact alLA_0
    · exact alLA_1
    · exact alLA_2
    · exact alLA_3
    · exact alLA_4
    · exact alLA_5
    · exact alLA_6
    · exact alLA_7
    · exact alLA_8
    · exact alLA_9
    · exact alLA_10
    · exact alLA_11
    · exact alLA_12
    · exact alLA_13
    · exact alLA_14
  · rw [List.getElem?_eq_none (by simp [q_LA]; omega)]
    intro e h
    cases h
def q_dec (cc : ByteArray) (pc : Nat) (i : Instr) (n : Nat) : Bool := decide (decode cc pc = .ok (i, n))
theorem q_dec_of {cc : ByteArray} {pc : Nat} {i : Instr} {n : Nat} (h : q_dec cc pc i n = true) : decode cc pc = .ok (i, n) := of_decide_eq_true h
def q_rmb (Rf Rl y : Nat) : Bool := Nat.blt y 211 && (Nat.ble (q_fr y + 1) Rf && Nat.ble (8 + (q_mx y + 11) + q_lo y) Rl)
def q_tswb (pc : Nat) (lo : Int) : Nat → List (Int32 × Nat) → List Int → Bool
  | _, [], [] => true
  | j, q :: sw, off :: offs => decide (q.1 = Int32.ofInt (lo + j)) && (decide ((pc : Int) + off = (q.2 : Int)) && q_tswb pc lo (j + 1) sw offs)
  | _, _, _ => false
def q_lswb (pc : Nat) : List (Int32 × Nat) → List (Int × Int) → Bool
  | [], [] => true
  | q :: sw, o :: ps => decide ((-2147483648 ≤ o.1 ∧ o.1 < 2147483648) ∧ q.1 = Int32.ofInt o.1 ∧ (pc : Int) + o.2 = (q.2 : Int)) && q_lswb pc sw ps
  | _, _ => false
/-- one row of a table, of class o, in a room of Rf frames and Rl locals -/
def q_chk (cc : ByteArray) (o Rf Rl pc : Nat) (i : Instr) (au : List Nat) (sw : List (Int32 × Nat)) : Bool := match i with
  | .aload_n n => q_dec cc pc (.aload_n n) 1
  | .aload n => q_dec cc pc (.aload n) 2
  | .astore_n n => q_dec cc pc (.astore_n n) 1
  | .astore n => q_dec cc pc (.astore n) 2
  | .iload_n n => q_dec cc pc (.iload_n n) 1
  | .iload n => q_dec cc pc (.iload n) 2
  | .istore_n n => q_dec cc pc (.istore_n n) 1
  | .istore n => q_dec cc pc (.istore n) 2
  | .lload_n n => q_dec cc pc (.lload_n n) 1
  | .lload n => q_dec cc pc (.lload n) 2
  | .lstore_n n => q_dec cc pc (.lstore_n n) 1
  | .lstore n => q_dec cc pc (.lstore n) 2
  | .iadd => q_dec cc pc .iadd 1
  | .isub => q_dec cc pc .isub 1
  | .imul => q_dec cc pc .imul 1
  | .iand => q_dec cc pc .iand 1
  | .ior => q_dec cc pc .ior 1
  | .ixor => q_dec cc pc .ixor 1
  | .idiv => q_dec cc pc .idiv 1
  | .irem => q_dec cc pc .irem 1
  | .ineg => q_dec cc pc .ineg 1
  | .ishl => q_dec cc pc .ishl 1
  | .ishr => q_dec cc pc .ishr 1
  | .ladd => q_dec cc pc .ladd 1
  | .lsub => q_dec cc pc .lsub 1
  | .lmul => q_dec cc pc .lmul 1
  | .land => q_dec cc pc .land 1
  | .lor => q_dec cc pc .lor 1
  | .lxor => q_dec cc pc .lxor 1
  | .ldiv => q_dec cc pc .ldiv 1
  | .lrem => q_dec cc pc .lrem 1
  | .lshl => q_dec cc pc .lshl 1
  | .lshr => q_dec cc pc .lshr 1
  | .lcmp => q_dec cc pc .lcmp 1
  | .i2l => q_dec cc pc .i2l 1
  | .l2i => q_dec cc pc .l2i 1
  | .i2b => q_dec cc pc .i2b 1
  | .dup => q_dec cc pc .dup 1
  | .dup_x1 => q_dec cc pc .dup_x1 1
  | .dup2 => q_dec cc pc .dup2 1
  | .pop => q_dec cc pc .pop 1
  | .iaload => q_dec cc pc .iaload 1
  | .laload => q_dec cc pc .laload 1
  | .aaload => q_dec cc pc .aaload 1
  | .iastore => q_dec cc pc .iastore 1
  | .lastore => q_dec cc pc .lastore 1
  | .arraylength => q_dec cc pc .arraylength 1
  | .ireturn => q_dec cc pc .ireturn 1
  | .lreturn => q_dec cc pc .lreturn 1
  | .return_ => q_dec cc pc .return_ 1
  | .lconst n => q_dec cc pc (.lconst n) 1
  | .iconst n => q_dec cc pc (.iconst n) 1 && (match sw with | [q] => decide (Int32.ofInt n = q.1) | _ => false)
  | .bipush n => q_dec cc pc (.bipush n) 2 && (match sw with | [q] => decide ((Int8.ofInt n).toInt32 = q.1) | _ => false)
  | .sipush n => q_dec cc pc (.sipush n) 3 && (match sw with | [q] => decide ((Int16.ofInt n).toInt32 = q.1) | _ => false)
  | .iinc n z => q_dec cc pc (.iinc n z) 3 && (match sw with | [q] => decide (Int32.ofInt z = q.1) | _ => false)
  | .ldc2_w i => q_dec cc pc (.ldc2_w i) 3 && (match au with | [c] => decide ((i, c) ∈ (q_LC[o]?).getD []) | _ => false)
  | .goto off => q_dec cc pc (.goto off) 3 && (match au with | [t] => decide ((pc : Int) + off = (t : Int)) | _ => false)
  | .ifCond c off => q_dec cc pc (.ifCond c off) 3 && (match au with | [t] => decide ((pc : Int) + off = (t : Int)) | _ => false)
  | .if_icmp c off => q_dec cc pc (.if_icmp c off) 3 && (match au with | [t] => decide ((pc : Int) + off = (t : Int)) | _ => false)
  | .ifnull off => q_dec cc pc (.ifnull off) 3 && (match au with | [t] => decide ((pc : Int) + off = (t : Int)) | _ => false)
  | .tableswitch d lo hi offs => (match decode cc pc with | .ok (j, _) => decide (j = .tableswitch d lo hi offs) | _ => false) && (match au with | [t] => decide ((pc : Int) + d = (t : Int)) && (decide (-2147483648 ≤ lo ∧ hi < 2147483648 ∧ (sw.length : Int) = hi - lo + 1) && q_tswb pc lo 0 sw offs.toList) | _ => false)
  | .lookupswitch d ps => (match decode cc pc with | .ok (j, _) => decide (j = .lookupswitch d ps) | _ => false) && (match au with | [t] => decide ((pc : Int) + d = (t : Int)) && ((ps.toList.zip (ps.toList.drop 1)).all (fun (a, next) => a.1 < next.1) && q_lswb pc sw ps.toList) | _ => false)
  | .getstatic i => q_dec cc pc (.getstatic i) 3 && (match au with | [a] => decide ((i, a) ∈ (q_LG[o]?).getD []) | _ => false)
  | .getfield i => q_dec cc pc (.getfield i) 3 && (match au with | [D, n, t] => decide ((i, D, n, t) ∈ (q_LF[o]?).getD []) | _ => false)
  | .putfield i => q_dec cc pc (.putfield i) 3 && (match au with | [D, n, t] => decide ((i, D, n, t) ∈ (q_LP[o]?).getD []) | _ => false)
  | .invokestatic i => q_dec cc pc (.invokestatic i) 3 && (match au with | [y, n, _] => decide ((i, y, n) ∈ (q_LS[o]?).getD []) && q_rmb Rf Rl y | [_] => decide (i ∈ (q_LA[o]?).getD []) && (Nat.ble 1 Rf && Nat.ble 26 Rl) | _ => false)
  | .invokespecial i => q_dec cc pc (.invokespecial i) 3 && (match au with | [y, n, _, _] => decide ((i, y, n) ∈ (q_LI[o]?).getD []) && q_rmb Rf Rl y | _ => false)
  | .invokevirtual i => q_dec cc pc (.invokevirtual i) 3 && (match au with | [y, n, _, D] => decide ((i, D, y, n) ∈ (q_LV[o]?).getD []) && q_rmb Rf Rl y | [x, n, _, D, _] => (List.range 13).all (fun c => !q_sub c D || (match q_vt x c with | some y => decide ((i, c, y, n) ∈ (q_LV[o]?).getD []) && q_rmb Rf Rl y | none => true)) | _ => false)
  | _ => false
def q_chkR (cc : ByteArray) (o Rf Rl : Nat) : Nat → List (Option q_I) → Bool
  | _, [] => true
  | pc, none :: r => q_chkR cc o Rf Rl (pc + 1) r
  | pc, some x :: r => q_chk cc o Rf Rl pc x.1 x.2.1 x.2.2 && q_chkR cc o Rf Rl (pc + 1) r
def q_chkM (cc : ByteArray) (o Rf Rl : Nat) : Nat → q_T → Bool
  | _, [] => true
  | pc, r :: t => q_chkR cc o Rf Rl pc r && q_chkM cc o Rf Rl (pc + 16) t
theorem q_chkR_at {cc : ByteArray} {o Rf Rl : Nat} {x : q_I} : ∀ {r : List (Option q_I)} {pc j : Nat}, q_chkR cc o Rf Rl pc r = true → r[j]? = some (some x) → q_chk cc o Rf Rl (pc + j) x.1 x.2.1 x.2.2 = true
  | [], _, j, _, h => by simp at h
  | a :: r, pc, 0, hc, h => by
    have e : a = some x := Option.some.inj h
    subst e
    exact ((Bool.and_eq_true _ _).mp hc).1
  | a :: r, pc, j + 1, hc, h => by
    have h2 : q_chkR cc o Rf Rl (pc + 1) r = true := by
      cases a with
      | none => exact hc
      | some y => exact ((Bool.and_eq_true _ _).mp hc).2
    have := q_chkR_at (j := j) h2 h
    rw [show pc + (j + 1) = pc + 1 + j by omega]
    exact this
theorem q_chkM_at {cc : ByteArray} {o Rf Rl : Nat} {x : q_I} : ∀ {t : q_T} {pc i j : Nat} {r : List (Option q_I)}, q_chkM cc o Rf Rl pc t = true → t[i]? = some r → r[j]? = some (some x) → q_chk cc o Rf Rl (pc + 16 * i + j) x.1 x.2.1 x.2.2 = true
  | [], _, i, _, _, _, h, _ => by simp at h
  | a :: t, pc, 0, j, r, hc, h, h2 => by
    have e : a = r := Option.some.inj h
    subst e
    exact q_chkR_at ((Bool.and_eq_true _ _).mp hc).1 h2
  | a :: t, pc, i + 1, j, r, hc, h, h2 => by
    have := q_chkM_at (i := i) ((Bool.and_eq_true _ _).mp hc).2 h h2
    rw [show pc + 16 * (i + 1) + j = pc + 16 + 16 * i + j by omega]
    exact this
theorem q_chk_at {cc : ByteArray} {o Rf Rl : Nat} {T : q_T} {pc : Nat} {i : Instr} {au : List Nat} {sw : List (Int32 × Nat)} (hc : q_chkM cc o Rf Rl 0 T = true) (h : q_at2 none T pc = some (i, au, sw)) : q_chk cc o Rf Rl pc i au sw = true := by
  unfold q_at2 at h
  split at h
  · rename_i r hr
    split at h
    · rename_i x hx
      subst h
      have := q_chkM_at hc hr hx
      rw [show 0 + 16 * (pc / 16) + pc % 16 = pc by omega] at this
      exact this
    · cases h
  · cases h
end
section
/-! ===== each method's table holds ===== -/
theorem ck_0 : q_chkM prog_2_method_2_code 0 0 0 0 e_0.1 = true := by decide +kernel
theorem ck_1 : q_chkM prog_2_method_3_code 0 2 46 0 e_1.1 = true := by decide +kernel
theorem ck_2 : q_chkM prog_2_method_4_code 0 1 26 0 e_2.1 = true := by decide +kernel
theorem ck_3 : q_chkM prog_2_method_5_code 0 1 23 0 e_3.1 = true := by decide +kernel
theorem ck_4 : q_chkM prog_2_method_6_code 0 1 23 0 e_4.1 = true := by decide +kernel
theorem ck_5 : q_chkM prog_3_method_2_code 1 1 22 0 e_5.1 = true := by decide +kernel
theorem ck_6 : q_chkM prog_3_method_3_code 1 6 126 0 e_6.1 = true := by decide +kernel
theorem ck_7 : q_chkM prog_3_method_4_code 1 2 42 0 e_7.1 = true := by decide +kernel
theorem ck_8 : q_chkM prog_4_method_2_code 2 0 0 0 e_8.1 = true := by decide +kernel
theorem ck_9 : q_chkM prog_4_method_3_code 2 0 0 0 e_9.1 = true := by decide +kernel
theorem ck_10 : q_chkM prog_4_method_4_code 2 0 0 0 e_10.1 = true := by decide +kernel
theorem ck_11 : q_chkM prog_4_method_5_code 2 1 21 0 e_11.1 = true := by decide +kernel
theorem ck_12 : q_chkM prog_4_method_6_code 2 3 63 0 e_12.1 = true := by decide +kernel
theorem ck_13 : q_chkM prog_4_method_7_code 2 5 105 0 e_13.1 = true := by decide +kernel
theorem ck_14 : q_chkM prog_5_method_2_code 3 0 0 0 e_14.1 = true := by decide +kernel
theorem ck_15 : q_chkM prog_5_method_3_code 3 2 42 0 e_15.1 = true := by decide +kernel
theorem ck_16 : q_chkM prog_6_method_2_code 4 1 26 0 e_16.1 = true := by decide +kernel
theorem ck_17 : q_chkM prog_6_method_3_code 4 0 0 0 e_17.1 = true := by decide +kernel
theorem ck_18 : q_chkM prog_6_method_4_code 4 0 0 0 e_18.1 = true := by decide +kernel
theorem ck_19 : q_chkM prog_6_method_5_code 4 0 0 0 e_19.1 = true := by decide +kernel
theorem ck_20 : q_chkM prog_6_method_6_code 4 0 0 0 e_20.1 = true := by decide +kernel
theorem ck_21 : q_chkM prog_6_method_7_code 4 1 21 0 e_21.1 = true := by decide +kernel
theorem ck_22 : q_chkM prog_6_method_8_code 4 2 43 0 e_22.1 = true := by decide +kernel
theorem ck_23 : q_chkM prog_6_method_9_code 4 0 0 0 e_23.1 = true := by decide +kernel
theorem ck_24 : q_chkM prog_6_method_10_code 4 0 0 0 e_24.1 = true := by decide +kernel
theorem ck_25 : q_chkM prog_6_method_11_code 4 0 0 0 e_25.1 = true := by decide +kernel
theorem ck_26 : q_chkM prog_6_method_12_code 4 0 0 0 e_26.1 = true := by decide +kernel
theorem ck_27 : q_chkM prog_6_method_13_code 4 1 23 0 e_27.1 = true := by decide +kernel
theorem ck_28 : q_chkM prog_6_method_14_code 4 2 44 0 e_28.1 = true := by decide +kernel
theorem ck_29 : q_chkM prog_6_method_15_code 4 3 65 0 e_29.1 = true := by decide +kernel
theorem ck_30 : q_chkM prog_6_method_16_code 4 2 45 0 e_30.1 = true := by decide +kernel
theorem ck_31 : q_chkM prog_6_method_17_code 4 2 45 0 e_31.1 = true := by decide +kernel
theorem ck_32 : q_chkM prog_6_method_18_code 4 3 66 0 e_32.1 = true := by decide +kernel
theorem ck_33 : q_chkM prog_6_method_19_code 4 4 87 0 e_33.1 = true := by decide +kernel
theorem ck_34 : q_chkM prog_7_method_2_code 5 0 0 0 e_34.1 = true := by decide +kernel
theorem ck_35 : q_chkM prog_7_method_3_code 5 1 26 0 e_35.1 = true := by decide +kernel
theorem ck_36 : q_chkM prog_8_method_2_code 6 4 88 0 e_36.1 = true := by decide +kernel
theorem ck_37 : q_chkM prog_8_method_3_code 6 2 65 0 e_37.1 = true := by decide +kernel
theorem ck_38 : q_chkM prog_8_method_4_code 6 1 33 0 e_38.1 = true := by decide +kernel
theorem ck_39 : q_chkM prog_8_method_5_code 6 0 0 0 e_39.1 = true := by decide +kernel
theorem ck_40 : q_chkM prog_8_method_6_code 6 0 0 0 e_40.1 = true := by decide +kernel
theorem ck_41 : q_chkM prog_8_method_7_code 6 1 25 0 e_41.1 = true := by decide +kernel
theorem ck_42 : q_chkM prog_8_method_8_code 6 1 23 0 e_42.1 = true := by decide +kernel
theorem ck_43 : q_chkM prog_8_method_9_code 6 3 87 0 e_43.1 = true := by decide +kernel
theorem ck_44 : q_chkM prog_8_method_10_code 6 3 87 0 e_44.1 = true := by decide +kernel
theorem ck_45 : q_chkM prog_8_method_11_code 6 3 87 0 e_45.1 = true := by decide +kernel
theorem ck_46 : q_chkM prog_9_method_2_code 7 0 0 0 e_46.1 = true := by decide +kernel
theorem ck_47 : q_chkM prog_9_method_3_code 7 4 84 0 e_47.1 = true := by decide +kernel
theorem ck_48 : q_chkM prog_10_method_2_code 8 0 0 0 e_48.1 = true := by decide +kernel
theorem ck_49 : q_chkM prog_10_method_3_code 8 0 0 0 e_49.1 = true := by decide +kernel
theorem ck_50 : q_chkM prog_10_method_4_code 8 0 0 0 e_50.1 = true := by decide +kernel
theorem ck_51 : q_chkM prog_10_method_5_code 8 0 0 0 e_51.1 = true := by decide +kernel
theorem ck_52 : q_chkM prog_10_method_6_code 8 0 0 0 e_52.1 = true := by decide +kernel
theorem ck_53 : q_chkM prog_11_method_2_code 9 1 22 0 e_53.1 = true := by decide +kernel
theorem ck_54 : q_chkM prog_11_method_3_code 9 4 84 0 e_54.1 = true := by decide +kernel
theorem ck_55 : q_chkM prog_12_method_2_code 10 0 0 0 e_55.1 = true := by decide +kernel
theorem ck_56 : q_chkM prog_12_method_3_code 10 0 0 0 e_56.1 = true := by decide +kernel
theorem ck_57 : q_chkM prog_12_method_4_code 10 0 0 0 e_57.1 = true := by decide +kernel
theorem ck_58 : q_chkM prog_12_method_5_code 10 1 20 0 e_58.1 = true := by decide +kernel
theorem ck_59 : q_chkM prog_12_method_6_code 10 2 41 0 e_59.1 = true := by decide +kernel
theorem ck_60 : q_chkM prog_12_method_7_code 10 1 20 0 e_60.1 = true := by decide +kernel
theorem ck_61 : q_chkM prog_1_method_2_code 11 1 23 0 e_61.1 = true := by decide +kernel
theorem ck_62 : q_chkM prog_1_method_3_code 11 1 20 0 e_62.1 = true := by decide +kernel
theorem ck_63 : q_chkM prog_1_method_4_code 11 1 20 0 e_63.1 = true := by decide +kernel
theorem ck_64 : q_chkM prog_1_method_5_code 11 3 70 0 e_64.1 = true := by decide +kernel
theorem ck_65 : q_chkM prog_1_method_6_code 11 4 88 0 e_65.1 = true := by decide +kernel
theorem ck_66 : q_chkM prog_1_method_7_code 11 5 110 0 e_66.1 = true := by decide +kernel
theorem ck_67 : q_chkM prog_1_method_8_code 11 5 110 0 e_67.1 = true := by decide +kernel
theorem ck_68 : q_chkM prog_1_method_9_code 11 5 110 0 e_68.1 = true := by decide +kernel
theorem ck_69 : q_chkM prog_1_method_10_code 11 5 110 0 e_69.1 = true := by decide +kernel
theorem ck_70 : q_chkM prog_1_method_11_code 11 5 110 0 e_70.1 = true := by decide +kernel
theorem ck_71 : q_chkM prog_1_method_12_code 11 5 110 0 e_71.1 = true := by decide +kernel
theorem ck_72 : q_chkM prog_1_method_13_code 11 6 135 0 e_72.1 = true := by decide +kernel
theorem ck_73 : q_chkM prog_1_method_14_code 11 5 110 0 e_73.1 = true := by decide +kernel
theorem ck_74 : q_chkM prog_1_method_15_code 11 5 110 0 e_74.1 = true := by decide +kernel
theorem ck_75 : q_chkM prog_1_method_16_code 11 5 112 0 e_75.1 = true := by decide +kernel
theorem ck_76 : q_chkM prog_1_method_17_code 11 7 159 0 e_76.1 = true := by decide +kernel
theorem ck_77 : q_chkM prog_1_method_18_code 11 5 110 0 e_77.1 = true := by decide +kernel
theorem ck_78 : q_chkM prog_1_method_19_code 11 7 159 0 e_78.1 = true := by decide +kernel
theorem ck_79 : q_chkM prog_1_method_20_code 11 6 135 0 e_79.1 = true := by decide +kernel
theorem ck_80 : q_chkM prog_1_method_21_code 11 6 135 0 e_80.1 = true := by decide +kernel
theorem ck_81 : q_chkM prog_1_method_22_code 11 7 162 0 e_81.1 = true := by decide +kernel
theorem ck_82 : q_chkM prog_1_method_23_code 11 5 111 0 e_82.1 = true := by decide +kernel
theorem ck_83 : q_chkM prog_1_method_24_code 11 1 23 0 e_83.1 = true := by decide +kernel
theorem ck_84 : q_chkM prog_1_method_25_code 11 6 135 0 e_84.1 = true := by decide +kernel
theorem ck_85 : q_chkM prog_1_method_26_code 11 4 95 0 e_85.1 = true := by decide +kernel
theorem ck_86 : q_chkM prog_1_method_27_code 11 0 0 0 e_86.1 = true := by decide +kernel
theorem ck_87 : q_chkM prog_1_method_28_code 11 2 44 0 e_87.1 = true := by decide +kernel
theorem ck_88 : q_chkM prog_1_method_29_code 11 2 44 0 e_88.1 = true := by decide +kernel
theorem ck_89 : q_chkM prog_1_method_30_code 11 1 21 0 e_89.1 = true := by decide +kernel
theorem ck_90 : q_chkM prog_1_method_31_code 11 0 0 0 e_90.1 = true := by decide +kernel
theorem ck_91 : q_chkM prog_1_method_32_code 11 6 139 0 e_91.1 = true := by decide +kernel
theorem ck_92 : q_chkM prog_1_method_33_code 11 1 23 0 e_92.1 = true := by decide +kernel
theorem ck_93 : q_chkM prog_1_method_34_code 11 1 23 0 e_93.1 = true := by decide +kernel
theorem ck_94 : q_chkM prog_1_method_35_code 11 1 21 0 e_94.1 = true := by decide +kernel
theorem ck_95 : q_chkM prog_1_method_36_code 11 5 112 0 e_95.1 = true := by decide +kernel
theorem ck_96 : q_chkM prog_1_method_37_code 11 1 26 0 e_96.1 = true := by decide +kernel
theorem ck_97 : q_chkM prog_1_method_38_code 11 7 147 0 e_97.1 = true := by decide +kernel
theorem ck_98 : q_chkM prog_1_method_39_code 11 0 0 0 e_98.1 = true := by decide +kernel
theorem ck_99 : q_chkM prog_1_method_40_code 11 1 23 0 e_99.1 = true := by decide +kernel
theorem ck_100 : q_chkM prog_1_method_41_code 11 2 47 0 e_100.1 = true := by decide +kernel
theorem ck_101 : q_chkM prog_1_method_42_code 11 5 109 0 e_101.1 = true := by decide +kernel
theorem ck_102 : q_chkM prog_1_method_43_code 11 2 47 0 e_102.1 = true := by decide +kernel
theorem ck_103 : q_chkM prog_1_method_44_code 11 2 42 0 e_103.1 = true := by decide +kernel
theorem ck_104 : q_chkM prog_1_method_45_code 11 0 0 0 e_104.1 = true := by decide +kernel
theorem ck_105 : q_chkM prog_1_method_46_code 11 0 0 0 e_105.1 = true := by decide +kernel
theorem ck_106 : q_chkM prog_1_method_47_code 11 0 0 0 e_106.1 = true := by decide +kernel
theorem ck_107 : q_chkM prog_1_method_48_code 11 1 20 0 e_107.1 = true := by decide +kernel
theorem ck_108 : q_chkM prog_1_method_49_code 11 2 41 0 e_108.1 = true := by decide +kernel
theorem ck_109 : q_chkM prog_1_method_50_code 11 0 0 0 e_109.1 = true := by decide +kernel
theorem ck_110 : q_chkM prog_1_method_51_code 11 0 0 0 e_110.1 = true := by decide +kernel
theorem ck_111 : q_chkM prog_1_method_52_code 11 1 20 0 e_111.1 = true := by decide +kernel
theorem ck_112 : q_chkM prog_1_method_53_code 11 5 112 0 e_112.1 = true := by decide +kernel
theorem ck_113 : q_chkM prog_1_method_54_code 11 6 135 0 e_113.1 = true := by decide +kernel
theorem ck_114 : q_chkM prog_1_method_55_code 11 5 110 0 e_114.1 = true := by decide +kernel
theorem ck_115 : q_chkM prog_1_method_56_code 11 5 111 0 e_115.1 = true := by decide +kernel
theorem ck_116 : q_chkM prog_1_method_57_code 11 6 135 0 e_116.1 = true := by decide +kernel
theorem ck_117 : q_chkM prog_1_method_58_code 11 6 135 0 e_117.1 = true := by decide +kernel
theorem ck_118 : q_chkM prog_1_method_59_code 11 5 117 0 e_118.1 = true := by decide +kernel
theorem ck_119 : q_chkM prog_1_method_60_code 11 4 95 0 e_119.1 = true := by decide +kernel
theorem ck_120 : q_chkM prog_14_method_2_code 12 0 0 0 e_120.1 = true := by decide +kernel
theorem ck_121 : q_chkM prog_14_method_3_code 12 1 22 0 e_121.1 = true := by decide +kernel
theorem ck_122 : q_chkM prog_14_method_4_code 12 1 22 0 e_122.1 = true := by decide +kernel
theorem ck_123 : q_chkM prog_14_method_5_code 12 1 22 0 e_123.1 = true := by decide +kernel
theorem ck_124 : q_chkM prog_14_method_6_code 12 2 42 0 e_124.1 = true := by decide +kernel
theorem ck_125 : q_chkM prog_14_method_7_code 12 0 0 0 e_125.1 = true := by decide +kernel
theorem ck_126 : q_chkM prog_14_method_8_code 12 1 22 0 e_126.1 = true := by decide +kernel
theorem ck_127 : q_chkM prog_14_method_9_code 12 0 0 0 e_127.1 = true := by decide +kernel
theorem ck_128 : q_chkM prog_14_method_10_code 12 0 0 0 e_128.1 = true := by decide +kernel
theorem ck_129 : q_chkM prog_14_method_11_code 12 0 0 0 e_129.1 = true := by decide +kernel
theorem ck_130 : q_chkM prog_14_method_12_code 12 1 23 0 e_130.1 = true := by decide +kernel
theorem ck_131 : q_chkM prog_14_method_13_code 12 2 63 0 e_131.1 = true := by decide +kernel
theorem ck_132 : q_chkM prog_14_method_14_code 12 0 0 0 e_132.1 = true := by decide +kernel
theorem ck_133 : q_chkM prog_14_method_15_code 12 3 85 0 e_133.1 = true := by decide +kernel
theorem ck_134 : q_chkM prog_14_method_16_code 12 0 0 0 e_134.1 = true := by decide +kernel
theorem ck_135 : q_chkM prog_14_method_17_code 12 1 22 0 e_135.1 = true := by decide +kernel
theorem ck_136 : q_chkM prog_14_method_18_code 12 1 20 0 e_136.1 = true := by decide +kernel
theorem ck_137 : q_chkM prog_14_method_19_code 12 1 20 0 e_137.1 = true := by decide +kernel
theorem ck_138 : q_chkM prog_14_method_20_code 12 0 0 0 e_138.1 = true := by decide +kernel
theorem ck_139 : q_chkM prog_14_method_21_code 12 0 0 0 e_139.1 = true := by decide +kernel
theorem ck_140 : q_chkM prog_14_method_22_code 12 2 43 0 e_140.1 = true := by decide +kernel
theorem ck_141 : q_chkM prog_14_method_23_code 12 0 0 0 e_141.1 = true := by decide +kernel
theorem ck_142 : q_chkM prog_14_method_24_code 12 0 0 0 e_142.1 = true := by decide +kernel
theorem ck_143 : q_chkM prog_14_method_25_code 12 3 65 0 e_143.1 = true := by decide +kernel
theorem ck_144 : q_chkM prog_14_method_26_code 12 0 0 0 e_144.1 = true := by decide +kernel
theorem ck_145 : q_chkM prog_14_method_27_code 12 4 88 0 e_145.1 = true := by decide +kernel
theorem ck_146 : q_chkM prog_14_method_28_code 12 1 23 0 e_146.1 = true := by decide +kernel
theorem ck_147 : q_chkM prog_14_method_29_code 12 1 23 0 e_147.1 = true := by decide +kernel
theorem ck_148 : q_chkM prog_14_method_30_code 12 3 65 0 e_148.1 = true := by decide +kernel
theorem ck_149 : q_chkM prog_14_method_31_code 12 3 85 0 e_149.1 = true := by decide +kernel
theorem ck_150 : q_chkM prog_14_method_32_code 12 3 85 0 e_150.1 = true := by decide +kernel
theorem ck_151 : q_chkM prog_14_method_33_code 12 3 85 0 e_151.1 = true := by decide +kernel
theorem ck_152 : q_chkM prog_14_method_34_code 12 3 85 0 e_152.1 = true := by decide +kernel
theorem ck_153 : q_chkM prog_14_method_35_code 12 3 85 0 e_153.1 = true := by decide +kernel
theorem ck_154 : q_chkM prog_14_method_36_code 12 2 45 0 e_154.1 = true := by decide +kernel
theorem ck_155 : q_chkM prog_14_method_37_code 12 2 43 0 e_155.1 = true := by decide +kernel
theorem ck_156 : q_chkM prog_14_method_38_code 12 4 110 0 e_156.1 = true := by decide +kernel
theorem ck_157 : q_chkM prog_14_method_39_code 12 3 63 0 e_157.1 = true := by decide +kernel
theorem ck_158 : q_chkM prog_14_method_40_code 12 3 63 0 e_158.1 = true := by decide +kernel
theorem ck_159 : q_chkM prog_14_method_41_code 12 3 85 0 e_159.1 = true := by decide +kernel
theorem ck_160 : q_chkM prog_14_method_42_code 12 4 109 0 e_160.1 = true := by decide +kernel
theorem ck_161 : q_chkM prog_14_method_43_code 12 4 110 0 e_161.1 = true := by decide +kernel
theorem ck_162 : q_chkM prog_14_method_44_code 12 4 110 0 e_162.1 = true := by decide +kernel
theorem ck_163 : q_chkM prog_14_method_45_code 12 4 109 0 e_163.1 = true := by decide +kernel
theorem ck_164 : q_chkM prog_14_method_46_code 12 4 110 0 e_164.1 = true := by decide +kernel
theorem ck_165 : q_chkM prog_14_method_47_code 12 0 0 0 e_165.1 = true := by decide +kernel
theorem ck_166 : q_chkM prog_14_method_48_code 12 4 110 0 e_166.1 = true := by decide +kernel
theorem ck_167 : q_chkM prog_14_method_49_code 12 4 110 0 e_167.1 = true := by decide +kernel
theorem ck_168 : q_chkM prog_14_method_50_code 12 1 22 0 e_168.1 = true := by decide +kernel
theorem ck_169 : q_chkM prog_14_method_51_code 12 0 0 0 e_169.1 = true := by decide +kernel
theorem ck_170 : q_chkM prog_14_method_52_code 12 2 42 0 e_170.1 = true := by decide +kernel
theorem ck_171 : q_chkM prog_14_method_53_code 12 2 42 0 e_171.1 = true := by decide +kernel
theorem ck_172 : q_chkM prog_14_method_54_code 12 2 42 0 e_172.1 = true := by decide +kernel
theorem ck_173 : q_chkM prog_14_method_55_code 12 4 110 0 e_173.1 = true := by decide +kernel
theorem ck_174 : q_chkM prog_14_method_56_code 12 2 42 0 e_174.1 = true := by decide +kernel
theorem ck_175 : q_chkM prog_14_method_57_code 12 4 110 0 e_175.1 = true := by decide +kernel
theorem ck_176 : q_chkM prog_14_method_58_code 12 6 163 0 e_176.1 = true := by decide +kernel
theorem ck_177 : q_chkM prog_14_method_59_code 12 5 134 0 e_177.1 = true := by decide +kernel
theorem ck_178 : q_chkM prog_14_method_60_code 12 5 134 0 e_178.1 = true := by decide +kernel
theorem ck_179 : q_chkM prog_14_method_61_code 12 4 110 0 e_179.1 = true := by decide +kernel
theorem ck_180 : q_chkM prog_14_method_62_code 12 1 22 0 e_180.1 = true := by decide +kernel
theorem ck_181 : q_chkM prog_14_method_63_code 12 4 110 0 e_181.1 = true := by decide +kernel
theorem ck_182 : q_chkM prog_14_method_64_code 12 5 113 0 e_182.1 = true := by decide +kernel
theorem ck_183 : q_chkM prog_14_method_65_code 12 0 0 0 e_183.1 = true := by decide +kernel
theorem ck_184 : q_chkM prog_14_method_66_code 12 1 22 0 e_184.1 = true := by decide +kernel
theorem ck_185 : q_chkM prog_14_method_67_code 12 0 0 0 e_185.1 = true := by decide +kernel
theorem ck_186 : q_chkM prog_14_method_68_code 12 0 0 0 e_186.1 = true := by decide +kernel
theorem ck_187 : q_chkM prog_14_method_69_code 12 0 0 0 e_187.1 = true := by decide +kernel
theorem ck_188 : q_chkM prog_14_method_70_code 12 1 22 0 e_188.1 = true := by decide +kernel
theorem ck_189 : q_chkM prog_14_method_71_code 12 2 43 0 e_189.1 = true := by decide +kernel
theorem ck_190 : q_chkM prog_14_method_72_code 12 3 66 0 e_190.1 = true := by decide +kernel
theorem ck_191 : q_chkM prog_14_method_73_code 12 5 113 0 e_191.1 = true := by decide +kernel
theorem ck_192 : q_chkM prog_14_method_74_code 12 6 134 0 e_192.1 = true := by decide +kernel
theorem ck_193 : q_chkM prog_14_method_75_code 12 0 0 0 e_193.1 = true := by decide +kernel
theorem ck_194 : q_chkM prog_14_method_76_code 12 1 21 0 e_194.1 = true := by decide +kernel
theorem ck_195 : q_chkM prog_14_method_77_code 12 2 45 0 e_195.1 = true := by decide +kernel
theorem ck_196 : q_chkM prog_14_method_78_code 12 3 69 0 e_196.1 = true := by decide +kernel
theorem ck_197 : q_chkM prog_14_method_79_code 12 4 91 0 e_197.1 = true := by decide +kernel
theorem ck_198 : q_chkM prog_14_method_80_code 12 0 0 0 e_198.1 = true := by decide +kernel
theorem ck_199 : q_chkM prog_14_method_81_code 12 2 43 0 e_199.1 = true := by decide +kernel
theorem ck_200 : q_chkM prog_14_method_82_code 12 0 0 0 e_200.1 = true := by decide +kernel
theorem ck_201 : q_chkM prog_14_method_83_code 12 1 22 0 e_201.1 = true := by decide +kernel
theorem ck_202 : q_chkM prog_14_method_84_code 12 2 44 0 e_202.1 = true := by decide +kernel
theorem ck_203 : q_chkM prog_14_method_85_code 12 3 66 0 e_203.1 = true := by decide +kernel
theorem ck_204 : q_chkM prog_14_method_86_code 12 2 45 0 e_204.1 = true := by decide +kernel
theorem ck_205 : q_chkM prog_14_method_87_code 12 3 66 0 e_205.1 = true := by decide +kernel
theorem ck_206 : q_chkM prog_14_method_88_code 12 0 0 0 e_206.1 = true := by decide +kernel
theorem ck_207 : q_chkM prog_14_method_89_code 12 1 22 0 e_207.1 = true := by decide +kernel
theorem ck_208 : q_chkM prog_15_method_65_code 13 0 0 0 e_208.1 = true := by decide +kernel
theorem ck_209 : q_chkM prog_15_method_52_code 13 0 0 0 e_209.1 = true := by decide +kernel
theorem ck_210 : q_chkM prog_15_method_66_code 13 0 0 0 e_210.1 = true := by decide +kernel
end
