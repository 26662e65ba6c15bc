section
-- ===== PART A: goes FIRST, ahead of the names: the tables' words, and 'selects' of the private methods out of them =====
/-- a private method of a class that the tables say can be made, by its rows of tables_1 -/
def lw_okq (q : MethodName × Nat) : Prop := (q.1.cls ≠ "java/lang/invoke/MethodHandle" ∧ q.1.cls ≠ "java/lang/invoke/VarHandle") ∧ Cond.instantiable q.1.cls q.2 ∈ tables_1 ∧ Cond.privateMethod q.1 ∈ tables_1 ∧ Cond.instanceMethod q.1 ∈ tables_1
theorem lw_p0 : lw_okq (⟨"CallRouter$History", "stateAt", "(I)LCallRouter$Network;"⟩, 3) := ⟨⟨by decide +kernel, by decide +kernel⟩, List.mem_of_getElem? (i := 125) (by decide +kernel), List.mem_of_getElem? (i := 274) (by decide +kernel), List.mem_of_getElem? (i := 275) (by decide +kernel)⟩
theorem lw_p1 : lw_okq (⟨"CallRouter$Ports", "indexOf", "(I)I"⟩, 3) := ⟨⟨by decide +kernel, by decide +kernel⟩, List.mem_of_getElem? (i := 59) (by decide +kernel), List.mem_of_getElem? (i := 395) (by decide +kernel), List.mem_of_getElem? (i := 396) (by decide +kernel)⟩
theorem lw_p2 : lw_okq (⟨"CallRouter$Journey", "arrive", "(LCallRouter$Network;III)I"⟩, 6) := ⟨⟨by decide +kernel, by decide +kernel⟩, List.mem_of_getElem? (i := 182) (by decide +kernel), List.mem_of_getElem? (i := 454) (by decide +kernel), List.mem_of_getElem? (i := 455) (by decide +kernel)⟩
theorem lw_p3 : lw_okq (⟨"CallRouter$Journey", "tryRoutes", "(LCallRouter$Network;III)I"⟩, 6) := ⟨⟨by decide +kernel, by decide +kernel⟩, List.mem_of_getElem? (i := 182) (by decide +kernel), List.mem_of_getElem? (i := 473) (by decide +kernel), List.mem_of_getElem? (i := 474) (by decide +kernel)⟩
theorem lw_p4 : lw_okq (⟨"CallRouter$Routes", "isBefore", "(III)Z"⟩, 7) := ⟨⟨by decide +kernel, by decide +kernel⟩, List.mem_of_getElem? (i := 30) (by decide +kernel), List.mem_of_getElem? (i := 498) (by decide +kernel), List.mem_of_getElem? (i := 499) (by decide +kernel)⟩
theorem lw_p5 : lw_okq (⟨"CallRouter$Journey", "tryRoute", "(LCallRouter$Network;III)I"⟩, 6) := ⟨⟨by decide +kernel, by decide +kernel⟩, List.mem_of_getElem? (i := 182) (by decide +kernel), List.mem_of_getElem? (i := 506) (by decide +kernel), List.mem_of_getElem? (i := 507) (by decide +kernel)⟩
theorem lw_p6 : lw_okq (⟨"CallRouter$Network", "settleStep", "(III)I"⟩, 9) := ⟨⟨by decide +kernel, by decide +kernel⟩, List.mem_of_getElem? (i := 24) (by decide +kernel), List.mem_of_getElem? (i := 602) (by decide +kernel), List.mem_of_getElem? (i := 603) (by decide +kernel)⟩
theorem lw_p7 : lw_okq (⟨"CallRouter$Network", "addDebt", "(III)V"⟩, 9) := ⟨⟨by decide +kernel, by decide +kernel⟩, List.mem_of_getElem? (i := 24) (by decide +kernel), List.mem_of_getElem? (i := 614) (by decide +kernel), List.mem_of_getElem? (i := 615) (by decide +kernel)⟩
theorem lw_p8 : lw_okq (⟨"CallRouter$CheapestWay", "fill", "(LCallRouter$Network;[II)V"⟩, 4) := ⟨⟨by decide +kernel, by decide +kernel⟩, List.mem_of_getElem? (i := 223) (by decide +kernel), List.mem_of_getElem? (i := 718) (by decide +kernel), List.mem_of_getElem? (i := 719) (by decide +kernel)⟩
theorem lw_p9 : lw_okq (⟨"CallRouter$CheapestWay", "fillSwitch", "(LCallRouter$Network;[III)V"⟩, 4) := ⟨⟨by decide +kernel, by decide +kernel⟩, List.mem_of_getElem? (i := 223) (by decide +kernel), List.mem_of_getElem? (i := 726) (by decide +kernel), List.mem_of_getElem? (i := 727) (by decide +kernel)⟩
theorem lw_p10 : lw_okq (⟨"CallRouter$CheapestWay", "arrive", "(LCallRouter$Network;IIII)V"⟩, 4) := ⟨⟨by decide +kernel, by decide +kernel⟩, List.mem_of_getElem? (i := 223) (by decide +kernel), List.mem_of_getElem? (i := 742) (by decide +kernel), List.mem_of_getElem? (i := 743) (by decide +kernel)⟩
theorem lw_p11 : lw_okq (⟨"CallRouter$CheapestWay", "costBetween", "(III)I"⟩, 4) := ⟨⟨by decide +kernel, by decide +kernel⟩, List.mem_of_getElem? (i := 223) (by decide +kernel), List.mem_of_getElem? (i := 749) (by decide +kernel), List.mem_of_getElem? (i := 750) (by decide +kernel)⟩
theorem lw_p12 : lw_okq (⟨"CallRouter$Text", "readCommand", "(I)Z"⟩, 10) := ⟨⟨by decide +kernel, by decide +kernel⟩, List.mem_of_getElem? (i := 144) (by decide +kernel), List.mem_of_getElem? (i := 781) (by decide +kernel), List.mem_of_getElem? (i := 782) (by decide +kernel)⟩
theorem lw_p13 : lw_okq (⟨"CallRouter$Text", "sign", "()C"⟩, 10) := ⟨⟨by decide +kernel, by decide +kernel⟩, List.mem_of_getElem? (i := 144) (by decide +kernel), List.mem_of_getElem? (i := 785) (by decide +kernel), List.mem_of_getElem? (i := 786) (by decide +kernel)⟩
theorem lw_p14 : lw_okq (⟨"CallRouter$Text", "skip", "(C)Z"⟩, 10) := ⟨⟨by decide +kernel, by decide +kernel⟩, List.mem_of_getElem? (i := 144) (by decide +kernel), List.mem_of_getElem? (i := 789) (by decide +kernel), List.mem_of_getElem? (i := 790) (by decide +kernel)⟩
theorem lw_p15 : lw_okq (⟨"CallRouter$Text", "readRoute", "(I)Z"⟩, 10) := ⟨⟨by decide +kernel, by decide +kernel⟩, List.mem_of_getElem? (i := 144) (by decide +kernel), List.mem_of_getElem? (i := 793) (by decide +kernel), List.mem_of_getElem? (i := 794) (by decide +kernel)⟩
def lw_privs_1 : List (MethodName × Nat) := [(⟨"CallRouter$History", "stateAt", "(I)LCallRouter$Network;"⟩, 3), (⟨"CallRouter$Ports", "indexOf", "(I)I"⟩, 3), (⟨"CallRouter$Journey", "arrive", "(LCallRouter$Network;III)I"⟩, 6), (⟨"CallRouter$Journey", "tryRoutes", "(LCallRouter$Network;III)I"⟩, 6), (⟨"CallRouter$Routes", "isBefore", "(III)Z"⟩, 7), (⟨"CallRouter$Journey", "tryRoute", "(LCallRouter$Network;III)I"⟩, 6), (⟨"CallRouter$Network", "settleStep", "(III)I"⟩, 9), (⟨"CallRouter$Network", "addDebt", "(III)V"⟩, 9), (⟨"CallRouter$CheapestWay", "fill", "(LCallRouter$Network;[II)V"⟩, 4), (⟨"CallRouter$CheapestWay", "fillSwitch", "(LCallRouter$Network;[III)V"⟩, 4), (⟨"CallRouter$CheapestWay", "arrive", "(LCallRouter$Network;IIII)V"⟩, 4), (⟨"CallRouter$CheapestWay", "costBetween", "(III)I"⟩, 4), (⟨"CallRouter$Text", "readCommand", "(I)Z"⟩, 10), (⟨"CallRouter$Text", "sign", "()C"⟩, 10), (⟨"CallRouter$Text", "skip", "(C)Z"⟩, 10), (⟨"CallRouter$Text", "readRoute", "(I)Z"⟩, 10)]
theorem lw_r1 : ∀ q ∈ lw_privs_1, lw_okq q := List.forall_mem_cons.mpr ⟨lw_p0, List.forall_mem_cons.mpr ⟨lw_p1, List.forall_mem_cons.mpr ⟨lw_p2, List.forall_mem_cons.mpr ⟨lw_p3, List.forall_mem_cons.mpr ⟨lw_p4, List.forall_mem_cons.mpr ⟨lw_p5, List.forall_mem_cons.mpr ⟨lw_p6, List.forall_mem_cons.mpr ⟨lw_p7, List.forall_mem_cons.mpr ⟨lw_p8, List.forall_mem_cons.mpr ⟨lw_p9, List.forall_mem_cons.mpr ⟨lw_p10, List.forall_mem_cons.mpr ⟨lw_p11, List.forall_mem_cons.mpr ⟨lw_p12, List.forall_mem_cons.mpr ⟨lw_p13, List.forall_mem_cons.mpr ⟨lw_p14, List.forall_mem_cons.mpr ⟨lw_p15, fun _ h => absurd h List.not_mem_nil⟩⟩⟩⟩⟩⟩⟩⟩⟩⟩⟩⟩⟩⟩⟩⟩
theorem lw_p16 : lw_okq (⟨"CallRouter$Text", "readSwitch", "(I)Z"⟩, 10) := ⟨⟨by decide +kernel, by decide +kernel⟩, List.mem_of_getElem? (i := 144) (by decide +kernel), List.mem_of_getElem? (i := 797) (by decide +kernel), List.mem_of_getElem? (i := 798) (by decide +kernel)⟩
theorem lw_p17 : lw_okq (⟨"CallRouter$Text", "readDigit", "()I"⟩, 10) := ⟨⟨by decide +kernel, by decide +kernel⟩, List.mem_of_getElem? (i := 144) (by decide +kernel), List.mem_of_getElem? (i := 801) (by decide +kernel), List.mem_of_getElem? (i := 802) (by decide +kernel)⟩
theorem lw_p18 : lw_okq (⟨"CallRouter$Text", "isDigit", "()Z"⟩, 10) := ⟨⟨by decide +kernel, by decide +kernel⟩, List.mem_of_getElem? (i := 144) (by decide +kernel), List.mem_of_getElem? (i := 805) (by decide +kernel), List.mem_of_getElem? (i := 806) (by decide +kernel)⟩
theorem lw_p19 : lw_okq (⟨"CallRouter$Text", "readDigits", "(I)I"⟩, 10) := ⟨⟨by decide +kernel, by decide +kernel⟩, List.mem_of_getElem? (i := 144) (by decide +kernel), List.mem_of_getElem? (i := 809) (by decide +kernel), List.mem_of_getElem? (i := 810) (by decide +kernel)⟩
theorem lw_p20 : lw_okq (⟨"CallRouter$Text", "readPort", "(I)Z"⟩, 10) := ⟨⟨by decide +kernel, by decide +kernel⟩, List.mem_of_getElem? (i := 144) (by decide +kernel), List.mem_of_getElem? (i := 813) (by decide +kernel), List.mem_of_getElem? (i := 814) (by decide +kernel)⟩
theorem lw_p21 : lw_okq (⟨"CallRouter$Text", "putRoute", "(ILCallRouter$Network;)Z"⟩, 10) := ⟨⟨by decide +kernel, by decide +kernel⟩, List.mem_of_getElem? (i := 144) (by decide +kernel), List.mem_of_getElem? (i := 830) (by decide +kernel), List.mem_of_getElem? (i := 831) (by decide +kernel)⟩
theorem lw_p22 : lw_okq (⟨"CallRouter$Text", "putPort", "(ILCallRouter$Network;)Z"⟩, 10) := ⟨⟨by decide +kernel, by decide +kernel⟩, List.mem_of_getElem? (i := 144) (by decide +kernel), List.mem_of_getElem? (i := 837) (by decide +kernel), List.mem_of_getElem? (i := 838) (by decide +kernel)⟩
theorem lw_p23 : lw_okq (⟨"CallRouter$Text", "letLookUp", "(ILCallRouter$Network;)Z"⟩, 10) := ⟨⟨by decide +kernel, by decide +kernel⟩, List.mem_of_getElem? (i := 144) (by decide +kernel), List.mem_of_getElem? (i := 844) (by decide +kernel), List.mem_of_getElem? (i := 845) (by decide +kernel)⟩
theorem lw_p24 : lw_okq (⟨"CallRouterModel", "keeps", "([I)V"⟩, 24) := ⟨⟨by decide +kernel, by decide +kernel⟩, List.mem_of_getElem? (i := 883) (by decide +kernel), List.mem_of_getElem? (i := 966) (by decide +kernel), List.mem_of_getElem? (i := 967) (by decide +kernel)⟩
theorem lw_p25 : lw_okq (⟨"CallRouterModel", "isSwitch", "(I)Z"⟩, 24) := ⟨⟨by decide +kernel, by decide +kernel⟩, List.mem_of_getElem? (i := 883) (by decide +kernel), List.mem_of_getElem? (i := 974) (by decide +kernel), List.mem_of_getElem? (i := 975) (by decide +kernel)⟩
theorem lw_p26 : lw_okq (⟨"CallRouterModel", "sets", "(II)I"⟩, 24) := ⟨⟨by decide +kernel, by decide +kernel⟩, List.mem_of_getElem? (i := 883) (by decide +kernel), List.mem_of_getElem? (i := 981) (by decide +kernel), List.mem_of_getElem? (i := 982) (by decide +kernel)⟩
theorem lw_p27 : lw_okq (⟨"CallRouterModel", "isRoute", "(IIIII)Z"⟩, 24) := ⟨⟨by decide +kernel, by decide +kernel⟩, List.mem_of_getElem? (i := 883) (by decide +kernel), List.mem_of_getElem? (i := 997) (by decide +kernel), List.mem_of_getElem? (i := 998) (by decide +kernel)⟩
theorem lw_p28 : lw_okq (⟨"CallRouterModel", "routes", "(IIIII)V"⟩, 24) := ⟨⟨by decide +kernel, by decide +kernel⟩, List.mem_of_getElem? (i := 883) (by decide +kernel), List.mem_of_getElem? (i := 1002) (by decide +kernel), List.mem_of_getElem? (i := 1003) (by decide +kernel)⟩
theorem lw_p29 : lw_okq (⟨"CallRouterModel", "portOf", "(I)I"⟩, 24) := ⟨⟨by decide +kernel, by decide +kernel⟩, List.mem_of_getElem? (i := 883) (by decide +kernel), List.mem_of_getElem? (i := 1017) (by decide +kernel), List.mem_of_getElem? (i := 1018) (by decide +kernel)⟩
theorem lw_p30 : lw_okq (⟨"CallRouterModel", "ports", "(II)I"⟩, 24) := ⟨⟨by decide +kernel, by decide +kernel⟩, List.mem_of_getElem? (i := 883) (by decide +kernel), List.mem_of_getElem? (i := 1021) (by decide +kernel), List.mem_of_getElem? (i := 1022) (by decide +kernel)⟩
theorem lw_p31 : lw_okq (⟨"CallRouterModel", "places", "(II)I"⟩, 24) := ⟨⟨by decide +kernel, by decide +kernel⟩, List.mem_of_getElem? (i := 883) (by decide +kernel), List.mem_of_getElem? (i := 1036) (by decide +kernel), List.mem_of_getElem? (i := 1037) (by decide +kernel)⟩
def lw_privs_2 : List (MethodName × Nat) := [(⟨"CallRouter$Text", "readSwitch", "(I)Z"⟩, 10), (⟨"CallRouter$Text", "readDigit", "()I"⟩, 10), (⟨"CallRouter$Text", "isDigit", "()Z"⟩, 10), (⟨"CallRouter$Text", "readDigits", "(I)I"⟩, 10), (⟨"CallRouter$Text", "readPort", "(I)Z"⟩, 10), (⟨"CallRouter$Text", "putRoute", "(ILCallRouter$Network;)Z"⟩, 10), (⟨"CallRouter$Text", "putPort", "(ILCallRouter$Network;)Z"⟩, 10), (⟨"CallRouter$Text", "letLookUp", "(ILCallRouter$Network;)Z"⟩, 10), (⟨"CallRouterModel", "keeps", "([I)V"⟩, 24), (⟨"CallRouterModel", "isSwitch", "(I)Z"⟩, 24), (⟨"CallRouterModel", "sets", "(II)I"⟩, 24), (⟨"CallRouterModel", "isRoute", "(IIIII)Z"⟩, 24), (⟨"CallRouterModel", "routes", "(IIIII)V"⟩, 24), (⟨"CallRouterModel", "portOf", "(I)I"⟩, 24), (⟨"CallRouterModel", "ports", "(II)I"⟩, 24), (⟨"CallRouterModel", "places", "(II)I"⟩, 24)]
theorem lw_r2 : ∀ q ∈ lw_privs_2, lw_okq q := List.forall_mem_cons.mpr ⟨lw_p16, List.forall_mem_cons.mpr ⟨lw_p17, List.forall_mem_cons.mpr ⟨lw_p18, List.forall_mem_cons.mpr ⟨lw_p19, List.forall_mem_cons.mpr ⟨lw_p20, List.forall_mem_cons.mpr ⟨lw_p21, List.forall_mem_cons.mpr ⟨lw_p22, List.forall_mem_cons.mpr ⟨lw_p23, List.forall_mem_cons.mpr ⟨lw_p24, List.forall_mem_cons.mpr ⟨lw_p25, List.forall_mem_cons.mpr ⟨lw_p26, List.forall_mem_cons.mpr ⟨lw_p27, List.forall_mem_cons.mpr ⟨lw_p28, List.forall_mem_cons.mpr ⟨lw_p29, List.forall_mem_cons.mpr ⟨lw_p30, List.forall_mem_cons.mpr ⟨lw_p31, fun _ h => absurd h List.not_mem_nil⟩⟩⟩⟩⟩⟩⟩⟩⟩⟩⟩⟩⟩⟩⟩⟩
theorem lw_p32 : lw_okq (⟨"CallRouterModel", "arrives", "(III)I"⟩, 24) := ⟨⟨by decide +kernel, by decide +kernel⟩, List.mem_of_getElem? (i := 883) (by decide +kernel), List.mem_of_getElem? (i := 1040) (by decide +kernel), List.mem_of_getElem? (i := 1041) (by decide +kernel)⟩
theorem lw_p33 : lw_okq (⟨"CallRouterModel", "dials", "(II)V"⟩, 24) := ⟨⟨by decide +kernel, by decide +kernel⟩, List.mem_of_getElem? (i := 883) (by decide +kernel), List.mem_of_getElem? (i := 1044) (by decide +kernel), List.mem_of_getElem? (i := 1045) (by decide +kernel)⟩
theorem lw_p34 : lw_okq (⟨"CallRouterModel", "spells", "(I)V"⟩, 24) := ⟨⟨by decide +kernel, by decide +kernel⟩, List.mem_of_getElem? (i := 883) (by decide +kernel), List.mem_of_getElem? (i := 1048) (by decide +kernel), List.mem_of_getElem? (i := 1049) (by decide +kernel)⟩
theorem lw_p35 : lw_okq (⟨"CallRouterModel", "gathers", "(II)I"⟩, 24) := ⟨⟨by decide +kernel, by decide +kernel⟩, List.mem_of_getElem? (i := 883) (by decide +kernel), List.mem_of_getElem? (i := 1055) (by decide +kernel), List.mem_of_getElem? (i := 1056) (by decide +kernel)⟩
theorem lw_p36 : lw_okq (⟨"CallRouterModel", "of", "(II)I"⟩, 24) := ⟨⟨by decide +kernel, by decide +kernel⟩, List.mem_of_getElem? (i := 883) (by decide +kernel), List.mem_of_getElem? (i := 1059) (by decide +kernel), List.mem_of_getElem? (i := 1060) (by decide +kernel)⟩
theorem lw_p37 : lw_okq (⟨"CallRouterModel", "begins", "(I)Z"⟩, 24) := ⟨⟨by decide +kernel, by decide +kernel⟩, List.mem_of_getElem? (i := 883) (by decide +kernel), List.mem_of_getElem? (i := 1063) (by decide +kernel), List.mem_of_getElem? (i := 1064) (by decide +kernel)⟩
theorem lw_p38 : lw_okq (⟨"CallRouterModel", "bandOf", "(I)I"⟩, 24) := ⟨⟨by decide +kernel, by decide +kernel⟩, List.mem_of_getElem? (i := 883) (by decide +kernel), List.mem_of_getElem? (i := 1067) (by decide +kernel), List.mem_of_getElem? (i := 1068) (by decide +kernel)⟩
theorem lw_p39 : lw_okq (⟨"CallRouterModel", "isBusy", "(I)Z"⟩, 24) := ⟨⟨by decide +kernel, by decide +kernel⟩, List.mem_of_getElem? (i := 883) (by decide +kernel), List.mem_of_getElem? (i := 1071) (by decide +kernel), List.mem_of_getElem? (i := 1072) (by decide +kernel)⟩
theorem lw_p40 : lw_okq (⟨"CallRouterModel", "tries", "(I)I"⟩, 24) := ⟨⟨by decide +kernel, by decide +kernel⟩, List.mem_of_getElem? (i := 883) (by decide +kernel), List.mem_of_getElem? (i := 1075) (by decide +kernel), List.mem_of_getElem? (i := 1076) (by decide +kernel)⟩
theorem lw_p41 : lw_okq (⟨"CallRouterModel", "atHand", "()I"⟩, 24) := ⟨⟨by decide +kernel, by decide +kernel⟩, List.mem_of_getElem? (i := 883) (by decide +kernel), List.mem_of_getElem? (i := 1079) (by decide +kernel), List.mem_of_getElem? (i := 1080) (by decide +kernel)⟩
theorem lw_p42 : lw_okq (⟨"CallRouterModel", "serves", "(I)Z"⟩, 24) := ⟨⟨by decide +kernel, by decide +kernel⟩, List.mem_of_getElem? (i := 883) (by decide +kernel), List.mem_of_getElem? (i := 1083) (by decide +kernel), List.mem_of_getElem? (i := 1084) (by decide +kernel)⟩
theorem lw_p43 : lw_okq (⟨"CallRouterModel", "leaves", "(I)V"⟩, 24) := ⟨⟨by decide +kernel, by decide +kernel⟩, List.mem_of_getElem? (i := 883) (by decide +kernel), List.mem_of_getElem? (i := 1087) (by decide +kernel), List.mem_of_getElem? (i := 1088) (by decide +kernel)⟩
theorem lw_p44 : lw_okq (⟨"CallRouterModel", "settles", "(I)I"⟩, 24) := ⟨⟨by decide +kernel, by decide +kernel⟩, List.mem_of_getElem? (i := 883) (by decide +kernel), List.mem_of_getElem? (i := 1091) (by decide +kernel), List.mem_of_getElem? (i := 1092) (by decide +kernel)⟩
theorem lw_p45 : lw_okq (⟨"CallRouterModel", "connects", "()V"⟩, 24) := ⟨⟨by decide +kernel, by decide +kernel⟩, List.mem_of_getElem? (i := 883) (by decide +kernel), List.mem_of_getElem? (i := 1095) (by decide +kernel), List.mem_of_getElem? (i := 1096) (by decide +kernel)⟩
theorem lw_p46 : lw_okq (⟨"CallRouterModel", "isCall", "(I)Z"⟩, 24) := ⟨⟨by decide +kernel, by decide +kernel⟩, List.mem_of_getElem? (i := 883) (by decide +kernel), List.mem_of_getElem? (i := 1103) (by decide +kernel), List.mem_of_getElem? (i := 1104) (by decide +kernel)⟩
theorem lw_p47 : lw_okq (⟨"CallRouterModel", "costOf", "(II)I"⟩, 24) := ⟨⟨by decide +kernel, by decide +kernel⟩, List.mem_of_getElem? (i := 883) (by decide +kernel), List.mem_of_getElem? (i := 1107) (by decide +kernel), List.mem_of_getElem? (i := 1108) (by decide +kernel)⟩
def lw_privs_3 : List (MethodName × Nat) := [(⟨"CallRouterModel", "arrives", "(III)I"⟩, 24), (⟨"CallRouterModel", "dials", "(II)V"⟩, 24), (⟨"CallRouterModel", "spells", "(I)V"⟩, 24), (⟨"CallRouterModel", "gathers", "(II)I"⟩, 24), (⟨"CallRouterModel", "of", "(II)I"⟩, 24), (⟨"CallRouterModel", "begins", "(I)Z"⟩, 24), (⟨"CallRouterModel", "bandOf", "(I)I"⟩, 24), (⟨"CallRouterModel", "isBusy", "(I)Z"⟩, 24), (⟨"CallRouterModel", "tries", "(I)I"⟩, 24), (⟨"CallRouterModel", "atHand", "()I"⟩, 24), (⟨"CallRouterModel", "serves", "(I)Z"⟩, 24), (⟨"CallRouterModel", "leaves", "(I)V"⟩, 24), (⟨"CallRouterModel", "settles", "(I)I"⟩, 24), (⟨"CallRouterModel", "connects", "()V"⟩, 24), (⟨"CallRouterModel", "isCall", "(I)Z"⟩, 24), (⟨"CallRouterModel", "costOf", "(II)I"⟩, 24)]
theorem lw_r3 : ∀ q ∈ lw_privs_3, lw_okq q := List.forall_mem_cons.mpr ⟨lw_p32, List.forall_mem_cons.mpr ⟨lw_p33, List.forall_mem_cons.mpr ⟨lw_p34, List.forall_mem_cons.mpr ⟨lw_p35, List.forall_mem_cons.mpr ⟨lw_p36, List.forall_mem_cons.mpr ⟨lw_p37, List.forall_mem_cons.mpr ⟨lw_p38, List.forall_mem_cons.mpr ⟨lw_p39, List.forall_mem_cons.mpr ⟨lw_p40, List.forall_mem_cons.mpr ⟨lw_p41, List.forall_mem_cons.mpr ⟨lw_p42, List.forall_mem_cons.mpr ⟨lw_p43, List.forall_mem_cons.mpr ⟨lw_p44, List.forall_mem_cons.mpr ⟨lw_p45, List.forall_mem_cons.mpr ⟨lw_p46, List.forall_mem_cons.mpr ⟨lw_p47, fun _ h => absurd h List.not_mem_nil⟩⟩⟩⟩⟩⟩⟩⟩⟩⟩⟩⟩⟩⟩⟩⟩
theorem lw_p48 : lw_okq (⟨"CallRouterModel", "costsTo", "(II)I"⟩, 24) := ⟨⟨by decide +kernel, by decide +kernel⟩, List.mem_of_getElem? (i := 883) (by decide +kernel), List.mem_of_getElem? (i := 1160) (by decide +kernel), List.mem_of_getElem? (i := 1161) (by decide +kernel)⟩
theorem lw_p49 : lw_okq (⟨"CallRouterModel", "readsText", "()Z"⟩, 24) := ⟨⟨by decide +kernel, by decide +kernel⟩, List.mem_of_getElem? (i := 883) (by decide +kernel), List.mem_of_getElem? (i := 1176) (by decide +kernel), List.mem_of_getElem? (i := 1177) (by decide +kernel)⟩
theorem lw_p50 : lw_okq (⟨"CallRouterModel", "readsCommand", "()Z"⟩, 24) := ⟨⟨by decide +kernel, by decide +kernel⟩, List.mem_of_getElem? (i := 883) (by decide +kernel), List.mem_of_getElem? (i := 1180) (by decide +kernel), List.mem_of_getElem? (i := 1181) (by decide +kernel)⟩
theorem lw_p51 : lw_okq (⟨"CallRouterModel", "sign", "()I"⟩, 24) := ⟨⟨by decide +kernel, by decide +kernel⟩, List.mem_of_getElem? (i := 883) (by decide +kernel), List.mem_of_getElem? (i := 1184) (by decide +kernel), List.mem_of_getElem? (i := 1185) (by decide +kernel)⟩
theorem lw_p52 : lw_okq (⟨"CallRouterModel", "reads", "(IIIZ)Z"⟩, 24) := ⟨⟨by decide +kernel, by decide +kernel⟩, List.mem_of_getElem? (i := 883) (by decide +kernel), List.mem_of_getElem? (i := 1188) (by decide +kernel), List.mem_of_getElem? (i := 1189) (by decide +kernel)⟩
theorem lw_p53 : lw_okq (⟨"CallRouterModel", "takes", "(I)Z"⟩, 24) := ⟨⟨by decide +kernel, by decide +kernel⟩, List.mem_of_getElem? (i := 883) (by decide +kernel), List.mem_of_getElem? (i := 1192) (by decide +kernel), List.mem_of_getElem? (i := 1193) (by decide +kernel)⟩
theorem lw_p54 : lw_okq (⟨"CallRouterModel", "does", "(I)Z"⟩, 24) := ⟨⟨by decide +kernel, by decide +kernel⟩, List.mem_of_getElem? (i := 883) (by decide +kernel), List.mem_of_getElem? (i := 1196) (by decide +kernel), List.mem_of_getElem? (i := 1197) (by decide +kernel)⟩
theorem lw_p55 : lw_okq (⟨"CallRouterModel", "num", "(II)I"⟩, 24) := ⟨⟨by decide +kernel, by decide +kernel⟩, List.mem_of_getElem? (i := 883) (by decide +kernel), List.mem_of_getElem? (i := 1200) (by decide +kernel), List.mem_of_getElem? (i := 1201) (by decide +kernel)⟩
def lw_privs_4 : List (MethodName × Nat) := [(⟨"CallRouterModel", "costsTo", "(II)I"⟩, 24), (⟨"CallRouterModel", "readsText", "()Z"⟩, 24), (⟨"CallRouterModel", "readsCommand", "()Z"⟩, 24), (⟨"CallRouterModel", "sign", "()I"⟩, 24), (⟨"CallRouterModel", "reads", "(IIIZ)Z"⟩, 24), (⟨"CallRouterModel", "takes", "(I)Z"⟩, 24), (⟨"CallRouterModel", "does", "(I)Z"⟩, 24), (⟨"CallRouterModel", "num", "(II)I"⟩, 24)]
theorem lw_r4 : ∀ q ∈ lw_privs_4, lw_okq q := List.forall_mem_cons.mpr ⟨lw_p48, List.forall_mem_cons.mpr ⟨lw_p49, List.forall_mem_cons.mpr ⟨lw_p50, List.forall_mem_cons.mpr ⟨lw_p51, List.forall_mem_cons.mpr ⟨lw_p52, List.forall_mem_cons.mpr ⟨lw_p53, List.forall_mem_cons.mpr ⟨lw_p54, List.forall_mem_cons.mpr ⟨lw_p55, fun _ h => absurd h List.not_mem_nil⟩⟩⟩⟩⟩⟩⟩⟩
def lw_privs : List (MethodName × Nat) := lw_privs_1 ++ (lw_privs_2 ++ (lw_privs_3 ++ (lw_privs_4)))
def lw_tbl : List Cond := k2_sels lw_privs ++ tables_1
theorem lw_privs_ok : ∀ q ∈ lw_privs, lw_okq q := by
  show ∀ q ∈ lw_privs_1 ++ (lw_privs_2 ++ (lw_privs_3 ++ (lw_privs_4))), lw_okq q
  exact List.forall_mem_append.mpr ⟨lw_r1, List.forall_mem_append.mpr ⟨lw_r2, List.forall_mem_append.mpr ⟨lw_r3, lw_r4⟩⟩⟩
end
section
def RX0 : String := "CallRouter$Calls"
def TX0 : u_T := fun k => match k with
  | 0 => ("CallRouter$Calls", "numbers", "[I", true)
  | 1 => ("CallRouter$Calls", "starts", "[I", true)
  | 2 => ("CallRouter$Calls", "lengths", "[I", true)
  | 3 => ("CallRouter$Calls", "steps", "[I", true)
  | _ => ("CallRouter$Calls", "count", "I", false)
def tyX0 : Nat → FieldType := fun k => match k with
  | 0 => .array .int
  | 1 => .array .int
  | 2 => .array .int
  | 3 => .array .int
  | _ => .int
abbrev wsX00 : List Cond := u_ws RX0 TX0 5
theorem nmX0 : ∀ a, a < 5 → ∀ b, b < 5 → a ≠ b → (TX0 a).2.1 ≠ (TX0 b).2.1 := by decide +kernel
theorem tyX0_ok : ∀ k, k < 5 → parseFieldDescriptor (TX0 k).2.2.1 = some (tyX0 k) := by decide +kernel
abbrev cX0_init : ByteArray := prog_2_method_1_code
def yX0_init : MethodName := ⟨RX0, "<init>", "()V"⟩
abbrev cX0_copyFrom : ByteArray := prog_2_method_2_code
def yX0_copyFrom : MethodName := ⟨RX0, "copyFrom", "(LCallRouter$Calls;)V"⟩
abbrev cX0_size : ByteArray := prog_2_method_3_code
def yX0_size : MethodName := ⟨RX0, "size", "()I"⟩
abbrev cX0_has : ByteArray := prog_2_method_4_code
def yX0_has : MethodName := ⟨RX0, "has", "(I)Z"⟩
abbrev cX0_freePlace : ByteArray := prog_2_method_5_code
def yX0_freePlace : MethodName := ⟨RX0, "freePlace", "()I"⟩
abbrev cX0_isBusy : ByteArray := prog_2_method_6_code
def yX0_isBusy : MethodName := ⟨RX0, "isBusy", "(I)Z"⟩
abbrev cX0_put : ByteArray := prog_2_method_7_code
def yX0_put : MethodName := ⟨RX0, "put", "(III)V"⟩
abbrev cX0_addStep : ByteArray := prog_2_method_8_code
def yX0_addStep : MethodName := ⟨RX0, "addStep", "(II)V"⟩
abbrev cX0_remove : ByteArray := prog_2_method_9_code
def yX0_remove : MethodName := ⟨RX0, "remove", "(I)V"⟩
abbrev cX0_numberAt : ByteArray := prog_2_method_10_code
def yX0_numberAt : MethodName := ⟨RX0, "numberAt", "(I)I"⟩
abbrev cX0_startOf : ByteArray := prog_2_method_11_code
def yX0_startOf : MethodName := ⟨RX0, "startOf", "(I)I"⟩
abbrev cX0_length : ByteArray := prog_2_method_12_code
def yX0_length : MethodName := ⟨RX0, "length", "(I)I"⟩
abbrev cX0_step : ByteArray := prog_2_method_13_code
def yX0_step : MethodName := ⟨RX0, "step", "(II)I"⟩
def RX1 : String := "CallRouter$CheapestWay"
def TX1 : u_T := fun k => match k with
  | 0 => ("CallRouter$CheapestWay", "plainCosts", "[I", true)
  | 1 => ("CallRouter$CheapestWay", "markedCosts", "[I", true)
  | 2 => ("CallRouter$CheapestWay", "wanted", "I", false)
  | _ => ("CallRouter$CheapestWay", "least", "I", false)
def tyX1 : Nat → FieldType := fun k => match k with
  | 0 => .array .int
  | 1 => .array .int
  | 2 => .int
  | _ => .int
abbrev wsX10 : List Cond := u_ws RX1 TX1 4
theorem nmX1 : ∀ a, a < 4 → ∀ b, b < 4 → a ≠ b → (TX1 a).2.1 ≠ (TX1 b).2.1 := by decide +kernel
theorem tyX1_ok : ∀ k, k < 4 → parseFieldDescriptor (TX1 k).2.2.1 = some (tyX1 k) := by decide +kernel
abbrev cX1_init : ByteArray := prog_3_method_1_code
def yX1_init : MethodName := ⟨RX1, "<init>", "()V"⟩
abbrev cX1_search : ByteArray := prog_3_method_2_code
def yX1_search : MethodName := ⟨RX1, "search", "(LCallRouter$Network;II)I"⟩
abbrev cX1_fill : ByteArray := prog_3_method_3_code
def yX1_fill : MethodName := ⟨RX1, "fill", "(LCallRouter$Network;[II)V"⟩
abbrev cX1_fillSwitch : ByteArray := prog_3_method_4_code
def yX1_fillSwitch : MethodName := ⟨RX1, "fillSwitch", "(LCallRouter$Network;[III)V"⟩
abbrev cX1_costBetween : ByteArray := prog_3_method_5_code
def yX1_costBetween : MethodName := ⟨RX1, "costBetween", "(III)I"⟩
abbrev cX1_arrive : ByteArray := prog_3_method_6_code
def yX1_arrive : MethodName := ⟨RX1, "arrive", "(LCallRouter$Network;IIII)V"⟩
def RX2 : String := "CallRouter$History"
def TX2 : u_T := fun k => match k with
  | 0 => ("CallRouter$History", "states", "[LCallRouter$Network;", true)
  | 1 => ("CallRouter$History", "first", "I", false)
  | _ => ("CallRouter$History", "count", "I", false)
def tyX2 : Nat → FieldType := fun k => match k with
  | 0 => .array (.object "CallRouter$Network")
  | 1 => .int
  | _ => .int
abbrev wsX20 : List Cond := u_ws RX2 TX2 3
theorem nmX2 : ∀ a, a < 3 → ∀ b, b < 3 → a ≠ b → (TX2 a).2.1 ≠ (TX2 b).2.1 := by decide +kernel
theorem tyX2_ok : ∀ k, k < 3 → parseFieldDescriptor (TX2 k).2.2.1 = some (tyX2 k) := by decide +kernel
abbrev cX2_init : ByteArray := prog_4_method_1_code
def yX2_init : MethodName := ⟨RX2, "<init>", "()V"⟩
abbrev cX2_size : ByteArray := prog_4_method_2_code
def yX2_size : MethodName := ⟨RX2, "size", "()I"⟩
abbrev cX2_stateAt : ByteArray := prog_4_method_3_code
def yX2_stateAt : MethodName := ⟨RX2, "stateAt", "(I)LCallRouter$Network;"⟩
abbrev cX2_push : ByteArray := prog_4_method_4_code
def yX2_push : MethodName := ⟨RX2, "push", "(LCallRouter$Network;)V"⟩
abbrev cX2_pop : ByteArray := prog_4_method_5_code
def yX2_pop : MethodName := ⟨RX2, "pop", "(LCallRouter$Network;)Z"⟩
def RX3 : String := "CallRouter$Journey"
def TX3 : u_T := fun k => match k with
  | 0 => ("CallRouter$Journey", "trace", "LCallRouter$Trace;", true)
  | 1 => ("CallRouter$Journey", "steps", "[I", true)
  | 2 => ("CallRouter$Journey", "length", "I", false)
  | 3 => ("CallRouter$Journey", "wanted", "I", false)
  | 4 => ("CallRouter$Journey", "presentBand", "I", false)
  | _ => ("CallRouter$Journey", "lastCode", "I", false)
def tyX3 : Nat → FieldType := fun k => match k with
  | 0 => .object "CallRouter$Trace"
  | 1 => .array .int
  | 2 => .int
  | 3 => .int
  | 4 => .int
  | _ => .int
abbrev wsX30 : List Cond := u_ws RX3 TX3 6
theorem nmX3 : ∀ a, a < 6 → ∀ b, b < 6 → a ≠ b → (TX3 a).2.1 ≠ (TX3 b).2.1 := by decide +kernel
theorem tyX3_ok : ∀ k, k < 6 → parseFieldDescriptor (TX3 k).2.2.1 = some (tyX3 k) := by decide +kernel
abbrev cX3_init : ByteArray := prog_5_method_1_code
def yX3_init : MethodName := ⟨RX3, "<init>", "()V"⟩
abbrev cX3_trace : ByteArray := prog_5_method_2_code
def yX3_trace : MethodName := ⟨RX3, "trace", "()LCallRouter$Trace;"⟩
abbrev cX3_number : ByteArray := prog_5_method_3_code
def yX3_number : MethodName := ⟨RX3, "number", "()I"⟩
abbrev cX3_length : ByteArray := prog_5_method_4_code
def yX3_length : MethodName := ⟨RX3, "length", "()I"⟩
abbrev cX3_step : ByteArray := prog_5_method_5_code
def yX3_step : MethodName := ⟨RX3, "step", "(I)I"⟩
abbrev cX3_start : ByteArray := prog_5_method_6_code
def yX3_start : MethodName := ⟨RX3, "start", "(LCallRouter$Network;II)I"⟩
abbrev cX3_arrive : ByteArray := prog_5_method_7_code
def yX3_arrive : MethodName := ⟨RX3, "arrive", "(LCallRouter$Network;III)I"⟩
abbrev cX3_tryRoutes : ByteArray := prog_5_method_8_code
def yX3_tryRoutes : MethodName := ⟨RX3, "tryRoutes", "(LCallRouter$Network;III)I"⟩
abbrev cX3_tryRoute : ByteArray := prog_5_method_9_code
def yX3_tryRoute : MethodName := ⟨RX3, "tryRoute", "(LCallRouter$Network;III)I"⟩
def RX4 : String := "CallRouter$Network"
def TX4 : u_T := fun k => match k with
  | 0 => ("CallRouter$Network", "codeSets", "[I", true)
  | 1 => ("CallRouter$Network", "debts", "[I", true)
  | 2 => ("CallRouter$Network", "routeRows", "LCallRouter$Routes;", true)
  | 3 => ("CallRouter$Network", "portRows", "LCallRouter$Ports;", true)
  | 4 => ("CallRouter$Network", "callRows", "LCallRouter$Calls;", true)
  | 5 => ("CallRouter$Network", "switches", "I", false)
  | 6 => ("CallRouter$Network", "lookups", "I", false)
  | 7 => ("CallRouter$Network", "hops", "I", false)
  | _ => ("CallRouter$Network", "clock", "I", false)
def tyX4 : Nat → FieldType := fun k => match k with
  | 0 => .array .int
  | 1 => .array .int
  | 2 => .object "CallRouter$Routes"
  | 3 => .object "CallRouter$Ports"
  | 4 => .object "CallRouter$Calls"
  | 5 => .int
  | 6 => .int
  | 7 => .int
  | _ => .int
abbrev wsX40 : List Cond := u_ws RX4 TX4 9
theorem nmX4 : ∀ a, a < 9 → ∀ b, b < 9 → a ≠ b → (TX4 a).2.1 ≠ (TX4 b).2.1 := by decide +kernel
theorem tyX4_ok : ∀ k, k < 9 → parseFieldDescriptor (TX4 k).2.2.1 = some (tyX4 k) := by decide +kernel
abbrev cX4_init : ByteArray := prog_6_method_1_code
def yX4_init : MethodName := ⟨RX4, "<init>", "()V"⟩
abbrev cX4_copyFrom : ByteArray := prog_6_method_2_code
def yX4_copyFrom : MethodName := ⟨RX4, "copyFrom", "(LCallRouter$Network;)V"⟩
abbrev cX4_routeRows : ByteArray := prog_6_method_3_code
def yX4_routeRows : MethodName := ⟨RX4, "routeRows", "()LCallRouter$Routes;"⟩
abbrev cX4_portRows : ByteArray := prog_6_method_4_code
def yX4_portRows : MethodName := ⟨RX4, "portRows", "()LCallRouter$Ports;"⟩
abbrev cX4_callRows : ByteArray := prog_6_method_5_code
def yX4_callRows : MethodName := ⟨RX4, "callRows", "()LCallRouter$Calls;"⟩
abbrev cX4_switchCount : ByteArray := prog_6_method_6_code
def yX4_switchCount : MethodName := ⟨RX4, "switchCount", "()I"⟩
abbrev cX4_hopLimit : ByteArray := prog_6_method_7_code
def yX4_hopLimit : MethodName := ⟨RX4, "hopLimit", "()I"⟩
abbrev cX4_minutes : ByteArray := prog_6_method_8_code
def yX4_minutes : MethodName := ⟨RX4, "minutes", "()I"⟩
abbrev cX4_hasSwitch : ByteArray := prog_6_method_9_code
def yX4_hasSwitch : MethodName := ⟨RX4, "hasSwitch", "(I)Z"⟩
abbrev cX4_putSwitch : ByteArray := prog_6_method_10_code
def yX4_putSwitch : MethodName := ⟨RX4, "putSwitch", "()I"⟩
abbrev cX4_looksUp : ByteArray := prog_6_method_11_code
def yX4_looksUp : MethodName := ⟨RX4, "looksUp", "(I)Z"⟩
abbrev cX4_changeLookup : ByteArray := prog_6_method_12_code
def yX4_changeLookup : MethodName := ⟨RX4, "changeLookup", "(IZ)V"⟩
abbrev cX4_changeCodes : ByteArray := prog_6_method_13_code
def yX4_changeCodes : MethodName := ⟨RX4, "changeCodes", "(II)I"⟩
abbrev cX4_goesOn : ByteArray := prog_6_method_14_code
def yX4_goesOn : MethodName := ⟨RX4, "goesOn", "(II)Z"⟩
abbrev cX4_changeLimit : ByteArray := prog_6_method_15_code
def yX4_changeLimit : MethodName := ⟨RX4, "changeLimit", "(I)I"⟩
abbrev cX4_letPass : ByteArray := prog_6_method_16_code
def yX4_letPass : MethodName := ⟨RX4, "letPass", "(I)I"⟩
abbrev cX4_routeRefusal : ByteArray := prog_6_method_17_code
def yX4_routeRefusal : MethodName := ⟨RX4, "routeRefusal", "(IIIII)I"⟩
abbrev cX4_portRefusal : ByteArray := prog_6_method_18_code
def yX4_portRefusal : MethodName := ⟨RX4, "portRefusal", "(II)I"⟩
abbrev cX4_markAt : ByteArray := prog_6_method_19_code
def yX4_markAt : MethodName := ⟨RX4, "markAt", "(III)I"⟩
abbrev cX4_connect : ByteArray := prog_6_method_20_code
def yX4_connect : MethodName := ⟨RX4, "connect", "(ILCallRouter$Journey;)V"⟩
abbrev cX4_settle : ByteArray := prog_6_method_21_code
def yX4_settle : MethodName := ⟨RX4, "settle", "(I)I"⟩
abbrev cX4_settleStep : ByteArray := prog_6_method_22_code
def yX4_settleStep : MethodName := ⟨RX4, "settleStep", "(III)I"⟩
abbrev cX4_addDebt : ByteArray := prog_6_method_23_code
def yX4_addDebt : MethodName := ⟨RX4, "addDebt", "(III)V"⟩
abbrev cX4_debt : ByteArray := prog_6_method_24_code
def yX4_debt : MethodName := ⟨RX4, "debt", "(II)I"⟩
abbrev cX4_foldDebts : ByteArray := prog_6_method_25_code
def yX4_foldDebts : MethodName := ⟨RX4, "foldDebts", "(J)J"⟩
def RX5 : String := "CallRouter$Ports"
def TX5 : u_T := fun k => match k with
  | 0 => ("CallRouter$Ports", "numbers", "[I", true)
  | 1 => ("CallRouter$Ports", "targets", "[I", true)
  | _ => ("CallRouter$Ports", "count", "I", false)
def tyX5 : Nat → FieldType := fun k => match k with
  | 0 => .array .int
  | 1 => .array .int
  | _ => .int
abbrev wsX50 : List Cond := u_ws RX5 TX5 3
theorem nmX5 : ∀ a, a < 3 → ∀ b, b < 3 → a ≠ b → (TX5 a).2.1 ≠ (TX5 b).2.1 := by decide +kernel
theorem tyX5_ok : ∀ k, k < 3 → parseFieldDescriptor (TX5 k).2.2.1 = some (tyX5 k) := by decide +kernel
abbrev cX5_init : ByteArray := prog_7_method_1_code
def yX5_init : MethodName := ⟨RX5, "<init>", "()V"⟩
abbrev cX5_copyFrom : ByteArray := prog_7_method_2_code
def yX5_copyFrom : MethodName := ⟨RX5, "copyFrom", "(LCallRouter$Ports;)V"⟩
abbrev cX5_size : ByteArray := prog_7_method_3_code
def yX5_size : MethodName := ⟨RX5, "size", "()I"⟩
abbrev cX5_indexOf : ByteArray := prog_7_method_4_code
def yX5_indexOf : MethodName := ⟨RX5, "indexOf", "(I)I"⟩
abbrev cX5_switchOf : ByteArray := prog_7_method_5_code
def yX5_switchOf : MethodName := ⟨RX5, "switchOf", "(I)I"⟩
abbrev cX5_put : ByteArray := prog_7_method_6_code
def yX5_put : MethodName := ⟨RX5, "put", "(II)I"⟩
abbrev cX5_remove : ByteArray := prog_7_method_7_code
def yX5_remove : MethodName := ⟨RX5, "remove", "(I)I"⟩
def RX6 : String := "CallRouter$Routes"
def TX6 : u_T := fun k => match k with
  | 0 => ("CallRouter$Routes", "owners", "[I", true)
  | 1 => ("CallRouter$Routes", "prefixes", "[I", true)
  | 2 => ("CallRouter$Routes", "nexts", "[I", true)
  | 3 => ("CallRouter$Routes", "costs", "[I", true)
  | 4 => ("CallRouter$Routes", "lineCounts", "[I", true)
  | 5 => ("CallRouter$Routes", "occupied", "[I", true)
  | _ => ("CallRouter$Routes", "count", "I", false)
def tyX6 : Nat → FieldType := fun k => match k with
  | 0 => .array .int
  | 1 => .array .int
  | 2 => .array .int
  | 3 => .array .int
  | 4 => .array .int
  | 5 => .array .int
  | _ => .int
abbrev wsX60 : List Cond := u_ws RX6 TX6 7
theorem nmX6 : ∀ a, a < 7 → ∀ b, b < 7 → a ≠ b → (TX6 a).2.1 ≠ (TX6 b).2.1 := by decide +kernel
theorem tyX6_ok : ∀ k, k < 7 → parseFieldDescriptor (TX6 k).2.2.1 = some (tyX6 k) := by decide +kernel
abbrev cX6_init : ByteArray := prog_8_method_1_code
def yX6_init : MethodName := ⟨RX6, "<init>", "()V"⟩
abbrev cX6_copyFrom : ByteArray := prog_8_method_2_code
def yX6_copyFrom : MethodName := ⟨RX6, "copyFrom", "(LCallRouter$Routes;)V"⟩
abbrev cX6_size : ByteArray := prog_8_method_3_code
def yX6_size : MethodName := ⟨RX6, "size", "()I"⟩
abbrev cX6_has : ByteArray := prog_8_method_4_code
def yX6_has : MethodName := ⟨RX6, "has", "(I)Z"⟩
abbrev cX6_put : ByteArray := prog_8_method_5_code
def yX6_put : MethodName := ⟨RX6, "put", "(IIIII)I"⟩
abbrev cX6_switchOf : ByteArray := prog_8_method_6_code
def yX6_switchOf : MethodName := ⟨RX6, "switchOf", "(I)I"⟩
abbrev cX6_nextOf : ByteArray := prog_8_method_7_code
def yX6_nextOf : MethodName := ⟨RX6, "nextOf", "(I)I"⟩
abbrev cX6_serves : ByteArray := prog_8_method_8_code
def yX6_serves : MethodName := ⟨RX6, "serves", "(I)Z"⟩
abbrev cX6_costOf : ByteArray := prog_8_method_9_code
def yX6_costOf : MethodName := ⟨RX6, "costOf", "(II)I"⟩
abbrev cX6_changeCost : ByteArray := prog_8_method_10_code
def yX6_changeCost : MethodName := ⟨RX6, "changeCost", "(III)I"⟩
abbrev cX6_hasFreeLine : ByteArray := prog_8_method_11_code
def yX6_hasFreeLine : MethodName := ⟨RX6, "hasFreeLine", "(I)Z"⟩
abbrev cX6_occupy : ByteArray := prog_8_method_12_code
def yX6_occupy : MethodName := ⟨RX6, "occupy", "(I)V"⟩
abbrev cX6_release : ByteArray := prog_8_method_13_code
def yX6_release : MethodName := ⟨RX6, "release", "(I)V"⟩
abbrev cX6_numberOf : ByteArray := prog_8_method_14_code
def yX6_numberOf : MethodName := ⟨RX6, "numberOf", "(II)I"⟩
abbrev cX6_longestPrefix : ByteArray := prog_8_method_15_code
def yX6_longestPrefix : MethodName := ⟨RX6, "longestPrefix", "(IJ)I"⟩
abbrev cX6_belongs : ByteArray := prog_8_method_16_code
def yX6_belongs : MethodName := ⟨RX6, "belongs", "(III)Z"⟩
abbrev cX6_choiceAfter : ByteArray := prog_8_method_17_code
def yX6_choiceAfter : MethodName := ⟨RX6, "choiceAfter", "(IIII)I"⟩
abbrev cX6_isBefore : ByteArray := prog_8_method_18_code
def yX6_isBefore : MethodName := ⟨RX6, "isBefore", "(III)Z"⟩
abbrev cX6_fold : ByteArray := prog_8_method_19_code
def yX6_fold : MethodName := ⟨RX6, "fold", "(J)J"⟩
def RX7 : String := "CallRouter$Text"
def TX7 : u_T := fun k => match k with
  | 0 => ("CallRouter$Text", "signs", "[C", true)
  | 1 => ("CallRouter$Text", "kinds", "[C", true)
  | 2 => ("CallRouter$Text", "switches", "[I", true)
  | 3 => ("CallRouter$Text", "others", "[I", true)
  | 4 => ("CallRouter$Text", "numbers", "[I", true)
  | 5 => ("CallRouter$Text", "costs", "[I", true)
  | 6 => ("CallRouter$Text", "lineCounts", "[I", true)
  | 7 => ("CallRouter$Text", "length", "I", false)
  | 8 => ("CallRouter$Text", "commands", "I", false)
  | _ => ("CallRouter$Text", "at", "I", false)
def tyX7 : Nat → FieldType := fun k => match k with
  | 0 => .array .char
  | 1 => .array .char
  | 2 => .array .int
  | 3 => .array .int
  | 4 => .array .int
  | 5 => .array .int
  | 6 => .array .int
  | 7 => .int
  | 8 => .int
  | _ => .int
abbrev wsX70 : List Cond := u_ws RX7 TX7 10
theorem nmX7 : ∀ a, a < 10 → ∀ b, b < 10 → a ≠ b → (TX7 a).2.1 ≠ (TX7 b).2.1 := by decide +kernel
theorem tyX7_ok : ∀ k, k < 10 → parseFieldDescriptor (TX7 k).2.2.1 = some (tyX7 k) := by decide +kernel
abbrev cX7_init : ByteArray := prog_9_method_1_code
def yX7_init : MethodName := ⟨RX7, "<init>", "()V"⟩
abbrev cX7_size : ByteArray := prog_9_method_2_code
def yX7_size : MethodName := ⟨RX7, "size", "()I"⟩
abbrev cX7_empty : ByteArray := prog_9_method_3_code
def yX7_empty : MethodName := ⟨RX7, "empty", "()V"⟩
abbrev cX7_append : ByteArray := prog_9_method_4_code
def yX7_append : MethodName := ⟨RX7, "append", "(C)Z"⟩
abbrev cX7_commandCount : ByteArray := prog_9_method_5_code
def yX7_commandCount : MethodName := ⟨RX7, "commandCount", "()I"⟩
abbrev cX7_errorPlace : ByteArray := prog_9_method_6_code
def yX7_errorPlace : MethodName := ⟨RX7, "errorPlace", "()I"⟩
abbrev cX7_parse : ByteArray := prog_9_method_7_code
def yX7_parse : MethodName := ⟨RX7, "parse", "()Z"⟩
abbrev cX7_sign : ByteArray := prog_9_method_8_code
def yX7_sign : MethodName := ⟨RX7, "sign", "()C"⟩
abbrev cX7_skip : ByteArray := prog_9_method_9_code
def yX7_skip : MethodName := ⟨RX7, "skip", "(C)Z"⟩
abbrev cX7_isDigit : ByteArray := prog_9_method_10_code
def yX7_isDigit : MethodName := ⟨RX7, "isDigit", "()Z"⟩
abbrev cX7_readDigit : ByteArray := prog_9_method_11_code
def yX7_readDigit : MethodName := ⟨RX7, "readDigit", "()I"⟩
abbrev cX7_readDigits : ByteArray := prog_9_method_12_code
def yX7_readDigits : MethodName := ⟨RX7, "readDigits", "(I)I"⟩
abbrev cX7_readCommand : ByteArray := prog_9_method_13_code
def yX7_readCommand : MethodName := ⟨RX7, "readCommand", "(I)Z"⟩
abbrev cX7_readSwitch : ByteArray := prog_9_method_14_code
def yX7_readSwitch : MethodName := ⟨RX7, "readSwitch", "(I)Z"⟩
abbrev cX7_readRoute : ByteArray := prog_9_method_15_code
def yX7_readRoute : MethodName := ⟨RX7, "readRoute", "(I)Z"⟩
abbrev cX7_readPort : ByteArray := prog_9_method_16_code
def yX7_readPort : MethodName := ⟨RX7, "readPort", "(I)Z"⟩
abbrev cX7_carryOut : ByteArray := prog_9_method_17_code
def yX7_carryOut : MethodName := ⟨RX7, "carryOut", "(ILCallRouter$Network;)Z"⟩
abbrev cX7_putRoute : ByteArray := prog_9_method_18_code
def yX7_putRoute : MethodName := ⟨RX7, "putRoute", "(ILCallRouter$Network;)Z"⟩
abbrev cX7_putPort : ByteArray := prog_9_method_19_code
def yX7_putPort : MethodName := ⟨RX7, "putPort", "(ILCallRouter$Network;)Z"⟩
abbrev cX7_letLookUp : ByteArray := prog_9_method_20_code
def yX7_letLookUp : MethodName := ⟨RX7, "letLookUp", "(ILCallRouter$Network;)Z"⟩
def RX8 : String := "CallRouter$Trace"
def TX8 : u_T := fun k => match k with
  | 0 => ("CallRouter$Trace", "routes", "[I", true)
  | 1 => ("CallRouter$Trace", "codes", "[I", true)
  | _ => ("CallRouter$Trace", "count", "I", false)
def tyX8 : Nat → FieldType := fun k => match k with
  | 0 => .array .int
  | 1 => .array .int
  | _ => .int
abbrev wsX80 : List Cond := u_ws RX8 TX8 3
theorem nmX8 : ∀ a, a < 3 → ∀ b, b < 3 → a ≠ b → (TX8 a).2.1 ≠ (TX8 b).2.1 := by decide +kernel
theorem tyX8_ok : ∀ k, k < 3 → parseFieldDescriptor (TX8 k).2.2.1 = some (tyX8 k) := by decide +kernel
abbrev cX8_init : ByteArray := prog_10_method_1_code
def yX8_init : MethodName := ⟨RX8, "<init>", "()V"⟩
abbrev cX8_size : ByteArray := prog_10_method_2_code
def yX8_size : MethodName := ⟨RX8, "size", "()I"⟩
abbrev cX8_has : ByteArray := prog_10_method_3_code
def yX8_has : MethodName := ⟨RX8, "has", "(I)Z"⟩
abbrev cX8_empty : ByteArray := prog_10_method_4_code
def yX8_empty : MethodName := ⟨RX8, "empty", "()V"⟩
abbrev cX8_begin : ByteArray := prog_10_method_5_code
def yX8_begin : MethodName := ⟨RX8, "begin", "(I)I"⟩
abbrev cX8_finish : ByteArray := prog_10_method_6_code
def yX8_finish : MethodName := ⟨RX8, "finish", "(II)V"⟩
abbrev cX8_routeAt : ByteArray := prog_10_method_7_code
def yX8_routeAt : MethodName := ⟨RX8, "routeAt", "(I)I"⟩
abbrev cX8_codeAt : ByteArray := prog_10_method_8_code
def yX8_codeAt : MethodName := ⟨RX8, "codeAt", "(I)I"⟩
def RX9 : String := "CallRouter"
def TX9 : u_T := fun k => match k with
  | 0 => ("CallRouter", "now", "LCallRouter$Network;", true)
  | 1 => ("CallRouter", "before", "LCallRouter$Network;", true)
  | 2 => ("CallRouter", "history", "LCallRouter$History;", true)
  | 3 => ("CallRouter", "text", "LCallRouter$Text;", true)
  | 4 => ("CallRouter", "journey", "LCallRouter$Journey;", true)
  | _ => ("CallRouter", "cheapestWay", "LCallRouter$CheapestWay;", true)
def tyX9 : Nat → FieldType := fun k => match k with
  | 0 => .object "CallRouter$Network"
  | 1 => .object "CallRouter$Network"
  | 2 => .object "CallRouter$History"
  | 3 => .object "CallRouter$Text"
  | 4 => .object "CallRouter$Journey"
  | _ => .object "CallRouter$CheapestWay"
abbrev wsX90 : List Cond := u_ws RX9 TX9 6
theorem nmX9 : ∀ a, a < 6 → ∀ b, b < 6 → a ≠ b → (TX9 a).2.1 ≠ (TX9 b).2.1 := by decide +kernel
theorem tyX9_ok : ∀ k, k < 6 → parseFieldDescriptor (TX9 k).2.2.1 = some (tyX9 k) := by decide +kernel
abbrev cX9_init : ByteArray := prog_1_method_1_code
def yX9_init : MethodName := ⟨RX9, "<init>", "()V"⟩
abbrev cX9_addSwitch : ByteArray := prog_1_method_2_code
def yX9_addSwitch : MethodName := ⟨RX9, "addSwitch", "()I"⟩
abbrev cX9_setLookup : ByteArray := prog_1_method_3_code
def yX9_setLookup : MethodName := ⟨RX9, "setLookup", "(IZ)I"⟩
abbrev cX9_setCodes : ByteArray := prog_1_method_4_code
def yX9_setCodes : MethodName := ⟨RX9, "setCodes", "(II)I"⟩
abbrev cX9_setLimit : ByteArray := prog_1_method_5_code
def yX9_setLimit : MethodName := ⟨RX9, "setLimit", "(I)I"⟩
abbrev cX9_addRoute : ByteArray := prog_1_method_6_code
def yX9_addRoute : MethodName := ⟨RX9, "addRoute", "(IIIII)I"⟩
abbrev cX9_setCost : ByteArray := prog_1_method_7_code
def yX9_setCost : MethodName := ⟨RX9, "setCost", "(III)I"⟩
abbrev cX9_port : ByteArray := prog_1_method_8_code
def yX9_port : MethodName := ⟨RX9, "port", "(II)I"⟩
abbrev cX9_unport : ByteArray := prog_1_method_9_code
def yX9_unport : MethodName := ⟨RX9, "unport", "(I)I"⟩
abbrev cX9_call : ByteArray := prog_1_method_10_code
def yX9_call : MethodName := ⟨RX9, "call", "(II)I"⟩
abbrev cX9_end : ByteArray := prog_1_method_11_code
def yX9_end : MethodName := ⟨RX9, "end", "(I)I"⟩
abbrev cX9_pass : ByteArray := prog_1_method_12_code
def yX9_pass : MethodName := ⟨RX9, "pass", "(I)I"⟩
abbrev cX9_time : ByteArray := prog_1_method_13_code
def yX9_time : MethodName := ⟨RX9, "time", "()I"⟩
abbrev cX9_band : ByteArray := prog_1_method_14_code
def yX9_band : MethodName := ⟨RX9, "band", "()I"⟩
abbrev cX9_route : ByteArray := prog_1_method_15_code
def yX9_route : MethodName := ⟨RX9, "route", "(II)I"⟩
abbrev cX9_choice : ByteArray := prog_1_method_16_code
def yX9_choice : MethodName := ⟨RX9, "choice", "(III)I"⟩
abbrev cX9_calls : ByteArray := prog_1_method_17_code
def yX9_calls : MethodName := ⟨RX9, "calls", "()I"⟩
abbrev cX9_way : ByteArray := prog_1_method_18_code
def yX9_way : MethodName := ⟨RX9, "way", "(II)I"⟩
abbrev cX9_called : ByteArray := prog_1_method_19_code
def yX9_called : MethodName := ⟨RX9, "called", "(I)I"⟩
abbrev cX9_owes : ByteArray := prog_1_method_20_code
def yX9_owes : MethodName := ⟨RX9, "owes", "(II)I"⟩
abbrev cX9_attempts : ByteArray := prog_1_method_21_code
def yX9_attempts : MethodName := ⟨RX9, "attempts", "()I"⟩
abbrev cX9_attempt : ByteArray := prog_1_method_22_code
def yX9_attempt : MethodName := ⟨RX9, "attempt", "(II)I"⟩
abbrev cX9_cheapest : ByteArray := prog_1_method_23_code
def yX9_cheapest : MethodName := ⟨RX9, "cheapest", "(II)I"⟩
abbrev cX9_type : ByteArray := prog_1_method_24_code
def yX9_type : MethodName := ⟨RX9, "type", "(I)I"⟩
abbrev cX9_clear : ByteArray := prog_1_method_25_code
def yX9_clear : MethodName := ⟨RX9, "clear", "()I"⟩
abbrev cX9_run : ByteArray := prog_1_method_26_code
def yX9_run : MethodName := ⟨RX9, "run", "()I"⟩
abbrev cX9_undo : ByteArray := prog_1_method_27_code
def yX9_undo : MethodName := ⟨RX9, "undo", "()I"⟩
abbrev cX9_fingerprint : ByteArray := prog_1_method_28_code
def yX9_fingerprint : MethodName := ⟨RX9, "fingerprint", "()J"⟩
abbrev cX9_inRange : ByteArray := prog_1_method_29_code
def yX9_inRange : MethodName := ⟨RX9, "inRange", "(III)Z"⟩
abbrev cX9_isNumber : ByteArray := prog_1_method_30_code
def yX9_isNumber : MethodName := ⟨RX9, "isNumber", "(I)Z"⟩
abbrev cX9_bandOf : ByteArray := prog_1_method_31_code
def yX9_bandOf : MethodName := ⟨RX9, "bandOf", "(I)I"⟩
abbrev cX9_digitsOf : ByteArray := prog_1_method_32_code
def yX9_digitsOf : MethodName := ⟨RX9, "digitsOf", "(II)J"⟩
abbrev cX9_beginsWith : ByteArray := prog_1_method_33_code
def yX9_beginsWith : MethodName := ⟨RX9, "beginsWith", "(JI)Z"⟩
def RX10 : String := "CallRouterModel"
def TX10 : u_T := fun k => match k with
  | 0 => ("CallRouterModel", "v", "[I", true)
  | 1 => ("CallRouterModel", "aside", "[I", true)
  | 2 => ("CallRouterModel", "past", "[I", true)
  | 3 => ("CallRouterModel", "pastMany", "I", false)
  | 4 => ("CallRouterModel", "digits", "[I", true)
  | 5 => ("CallRouterModel", "digitMany", "I", false)
  | 6 => ("CallRouterModel", "ats", "[I", true)
  | 7 => ("CallRouterModel", "marks", "[I", true)
  | 8 => ("CallRouterModel", "lists", "[I", true)
  | 9 => ("CallRouterModel", "manies", "[I", true)
  | 10 => ("CallRouterModel", "tries", "[I", true)
  | 11 => ("CallRouterModel", "own", "[I", true)
  | 12 => ("CallRouterModel", "depth", "I", false)
  | 13 => ("CallRouterModel", "attemptRoutes", "[I", true)
  | 14 => ("CallRouterModel", "attemptCodes", "[I", true)
  | 15 => ("CallRouterModel", "attemptMany", "I", false)
  | 16 => ("CallRouterModel", "wayOf", "[I", true)
  | 17 => ("CallRouterModel", "wayMany", "I", false)
  | 18 => ("CallRouterModel", "text", "[I", true)
  | 19 => ("CallRouterModel", "typed", "I", false)
  | 20 => ("CallRouterModel", "at", "I", false)
  | 21 => ("CallRouterModel", "commands", "I", false)
  | 22 => ("CallRouterModel", "kinds", "[I", true)
  | _ => ("CallRouterModel", "numbers", "[I", true)
def tyX10 : Nat → FieldType := fun k => match k with
  | 0 => .array .int
  | 1 => .array .int
  | 2 => .array .int
  | 3 => .int
  | 4 => .array .int
  | 5 => .int
  | 6 => .array .int
  | 7 => .array .int
  | 8 => .array .int
  | 9 => .array .int
  | 10 => .array .int
  | 11 => .array .int
  | 12 => .int
  | 13 => .array .int
  | 14 => .array .int
  | 15 => .int
  | 16 => .array .int
  | 17 => .int
  | 18 => .array .int
  | 19 => .int
  | 20 => .int
  | 21 => .int
  | 22 => .array .int
  | _ => .array .int
abbrev wsX100 : List Cond := u_ws RX10 TX10 24
theorem nmX10 : ∀ a, a < 24 → ∀ b, b < 24 → a ≠ b → (TX10 a).2.1 ≠ (TX10 b).2.1 := by decide +kernel
theorem tyX10_ok : ∀ k, k < 24 → parseFieldDescriptor (TX10 k).2.2.1 = some (tyX10 k) := by decide +kernel
abbrev cX10_init : ByteArray := prog_12_method_1_code
def yX10_init : MethodName := ⟨RX10, "<init>", "()V"⟩
abbrev cX10_in : ByteArray := prog_12_method_2_code
def yX10_in : MethodName := ⟨RX10, "in", "(III)Z"⟩
abbrev cX10_keeps : ByteArray := prog_12_method_3_code
def yX10_keeps : MethodName := ⟨RX10, "keeps", "([I)V"⟩
abbrev cX10_copies : ByteArray := prog_12_method_4_code
def yX10_copies : MethodName := ⟨RX10, "copies", "([I[I)V"⟩
abbrev cX10_sets : ByteArray := prog_12_method_5_code
def yX10_sets : MethodName := ⟨RX10, "sets", "(II)I"⟩
abbrev cX10_isSwitch : ByteArray := prog_12_method_6_code
def yX10_isSwitch : MethodName := ⟨RX10, "isSwitch", "(I)Z"⟩
abbrev cX10_isNumber : ByteArray := prog_12_method_7_code
def yX10_isNumber : MethodName := ⟨RX10, "isNumber", "(I)Z"⟩
abbrev cX10_of : ByteArray := prog_12_method_8_code
def yX10_of : MethodName := ⟨RX10, "of", "(II)I"⟩
abbrev cX10_serves : ByteArray := prog_12_method_9_code
def yX10_serves : MethodName := ⟨RX10, "serves", "(I)Z"⟩
abbrev cX10_costOf : ByteArray := prog_12_method_10_code
def yX10_costOf : MethodName := ⟨RX10, "costOf", "(II)I"⟩
abbrev cX10_addSwitch : ByteArray := prog_12_method_11_code
def yX10_addSwitch : MethodName := ⟨RX10, "addSwitch", "()I"⟩
abbrev cX10_setLookup : ByteArray := prog_12_method_12_code
def yX10_setLookup : MethodName := ⟨RX10, "setLookup", "(IZ)I"⟩
abbrev cX10_setCodes : ByteArray := prog_12_method_13_code
def yX10_setCodes : MethodName := ⟨RX10, "setCodes", "(II)I"⟩
abbrev cX10_setLimit : ByteArray := prog_12_method_14_code
def yX10_setLimit : MethodName := ⟨RX10, "setLimit", "(I)I"⟩
abbrev cX10_isRoute : ByteArray := prog_12_method_15_code
def yX10_isRoute : MethodName := ⟨RX10, "isRoute", "(IIIII)Z"⟩
abbrev cX10_routes : ByteArray := prog_12_method_16_code
def yX10_routes : MethodName := ⟨RX10, "routes", "(IIIII)V"⟩
abbrev cX10_addRoute : ByteArray := prog_12_method_17_code
def yX10_addRoute : MethodName := ⟨RX10, "addRoute", "(IIIII)I"⟩
abbrev cX10_setCost : ByteArray := prog_12_method_18_code
def yX10_setCost : MethodName := ⟨RX10, "setCost", "(III)I"⟩
abbrev cX10_portOf : ByteArray := prog_12_method_19_code
def yX10_portOf : MethodName := ⟨RX10, "portOf", "(I)I"⟩
abbrev cX10_ports : ByteArray := prog_12_method_20_code
def yX10_ports : MethodName := ⟨RX10, "ports", "(II)I"⟩
abbrev cX10_port : ByteArray := prog_12_method_21_code
def yX10_port : MethodName := ⟨RX10, "port", "(II)I"⟩
abbrev cX10_unport : ByteArray := prog_12_method_22_code
def yX10_unport : MethodName := ⟨RX10, "unport", "(I)I"⟩
abbrev cX10_lengthOf : ByteArray := prog_12_method_23_code
def yX10_lengthOf : MethodName := ⟨RX10, "lengthOf", "(I)I"⟩
abbrev cX10_spells : ByteArray := prog_12_method_24_code
def yX10_spells : MethodName := ⟨RX10, "spells", "(I)V"⟩
abbrev cX10_dials : ByteArray := prog_12_method_25_code
def yX10_dials : MethodName := ⟨RX10, "dials", "(II)V"⟩
abbrev cX10_begins : ByteArray := prog_12_method_26_code
def yX10_begins : MethodName := ⟨RX10, "begins", "(I)Z"⟩
abbrev cX10_bandOf : ByteArray := prog_12_method_27_code
def yX10_bandOf : MethodName := ⟨RX10, "bandOf", "(I)I"⟩
abbrev cX10_gathers : ByteArray := prog_12_method_28_code
def yX10_gathers : MethodName := ⟨RX10, "gathers", "(II)I"⟩
abbrev cX10_isBusy : ByteArray := prog_12_method_29_code
def yX10_isBusy : MethodName := ⟨RX10, "isBusy", "(I)Z"⟩
abbrev cX10_arrives : ByteArray := prog_12_method_30_code
def yX10_arrives : MethodName := ⟨RX10, "arrives", "(III)I"⟩
abbrev cX10_atHand : ByteArray := prog_12_method_31_code
def yX10_atHand : MethodName := ⟨RX10, "atHand", "()I"⟩
abbrev cX10_tries : ByteArray := prog_12_method_32_code
def yX10_tries : MethodName := ⟨RX10, "tries", "(I)I"⟩
abbrev cX10_settles : ByteArray := prog_12_method_33_code
def yX10_settles : MethodName := ⟨RX10, "settles", "(I)I"⟩
abbrev cX10_places : ByteArray := prog_12_method_34_code
def yX10_places : MethodName := ⟨RX10, "places", "(II)I"⟩
abbrev cX10_leaves : ByteArray := prog_12_method_35_code
def yX10_leaves : MethodName := ⟨RX10, "leaves", "(I)V"⟩
abbrev cX10_connects : ByteArray := prog_12_method_36_code
def yX10_connects : MethodName := ⟨RX10, "connects", "()V"⟩
abbrev cX10_call : ByteArray := prog_12_method_37_code
def yX10_call : MethodName := ⟨RX10, "call", "(II)I"⟩
abbrev cX10_isCall : ByteArray := prog_12_method_38_code
def yX10_isCall : MethodName := ⟨RX10, "isCall", "(I)Z"⟩
abbrev cX10_end : ByteArray := prog_12_method_39_code
def yX10_end : MethodName := ⟨RX10, "end", "(I)I"⟩
abbrev cX10_pass : ByteArray := prog_12_method_40_code
def yX10_pass : MethodName := ⟨RX10, "pass", "(I)I"⟩
abbrev cX10_time : ByteArray := prog_12_method_41_code
def yX10_time : MethodName := ⟨RX10, "time", "()I"⟩
abbrev cX10_band : ByteArray := prog_12_method_42_code
def yX10_band : MethodName := ⟨RX10, "band", "()I"⟩
abbrev cX10_route : ByteArray := prog_12_method_43_code
def yX10_route : MethodName := ⟨RX10, "route", "(II)I"⟩
abbrev cX10_choice : ByteArray := prog_12_method_44_code
def yX10_choice : MethodName := ⟨RX10, "choice", "(III)I"⟩
abbrev cX10_calls : ByteArray := prog_12_method_45_code
def yX10_calls : MethodName := ⟨RX10, "calls", "()I"⟩
abbrev cX10_way : ByteArray := prog_12_method_46_code
def yX10_way : MethodName := ⟨RX10, "way", "(II)I"⟩
abbrev cX10_called : ByteArray := prog_12_method_47_code
def yX10_called : MethodName := ⟨RX10, "called", "(I)I"⟩
abbrev cX10_owes : ByteArray := prog_12_method_48_code
def yX10_owes : MethodName := ⟨RX10, "owes", "(II)I"⟩
abbrev cX10_attempts : ByteArray := prog_12_method_49_code
def yX10_attempts : MethodName := ⟨RX10, "attempts", "()I"⟩
abbrev cX10_attempt : ByteArray := prog_12_method_50_code
def yX10_attempt : MethodName := ⟨RX10, "attempt", "(II)I"⟩
abbrev cX10_costsTo : ByteArray := prog_12_method_51_code
def yX10_costsTo : MethodName := ⟨RX10, "costsTo", "(II)I"⟩
abbrev cX10_cheapest : ByteArray := prog_12_method_52_code
def yX10_cheapest : MethodName := ⟨RX10, "cheapest", "(II)I"⟩
abbrev cX10_type : ByteArray := prog_12_method_53_code
def yX10_type : MethodName := ⟨RX10, "type", "(I)I"⟩
abbrev cX10_clear : ByteArray := prog_12_method_54_code
def yX10_clear : MethodName := ⟨RX10, "clear", "()I"⟩
abbrev cX10_sign : ByteArray := prog_12_method_55_code
def yX10_sign : MethodName := ⟨RX10, "sign", "()I"⟩
abbrev cX10_takes : ByteArray := prog_12_method_56_code
def yX10_takes : MethodName := ⟨RX10, "takes", "(I)Z"⟩
abbrev cX10_reads : ByteArray := prog_12_method_57_code
def yX10_reads : MethodName := ⟨RX10, "reads", "(IIIZ)Z"⟩
abbrev cX10_readsCommand : ByteArray := prog_12_method_58_code
def yX10_readsCommand : MethodName := ⟨RX10, "readsCommand", "()Z"⟩
abbrev cX10_readsText : ByteArray := prog_12_method_59_code
def yX10_readsText : MethodName := ⟨RX10, "readsText", "()Z"⟩
abbrev cX10_num : ByteArray := prog_12_method_60_code
def yX10_num : MethodName := ⟨RX10, "num", "(II)I"⟩
abbrev cX10_does : ByteArray := prog_12_method_61_code
def yX10_does : MethodName := ⟨RX10, "does", "(I)Z"⟩
abbrev cX10_run : ByteArray := prog_12_method_62_code
def yX10_run : MethodName := ⟨RX10, "run", "()I"⟩
abbrev cX10_undo : ByteArray := prog_12_method_63_code
def yX10_undo : MethodName := ⟨RX10, "undo", "()I"⟩
abbrev cX10_fingerprint : ByteArray := prog_12_method_64_code
def yX10_fingerprint : MethodName := ⟨RX10, "fingerprint", "()J"⟩
def RJ6 : String := "java/lang/Integer"
def TJ6 : u_T := fun k => match k with
  | _ => ("", "", "", false)
def tyJ6 : Nat → FieldType := fun k => match k with
  | _ => .int
abbrev wsJ60 : List Cond := u_ws RJ6 TJ6 0
theorem nmJ6 : ∀ a, a < 0 → ∀ b, b < 0 → a ≠ b → (TJ6 a).2.1 ≠ (TJ6 b).2.1 := by decide +kernel
theorem tyJ6_ok : ∀ k, k < 0 → parseFieldDescriptor (TJ6 k).2.2.1 = some (tyJ6 k) := by decide +kernel
abbrev cJ6_bitCount_0f7a4 : ByteArray := prog_13_method_49_code
def yJ6_bitCount_0f7a4 : MethodName := ⟨RJ6, "bitCount", "(I)I"⟩
def RJ9 : String := "java/lang/Math"
def TJ9 : u_T := fun k => match k with
  | _ => ("", "", "", false)
def tyJ9 : Nat → FieldType := fun k => match k with
  | _ => .int
abbrev wsJ90 : List Cond := u_ws RJ9 TJ9 0
theorem nmJ9 : ∀ a, a < 0 → ∀ b, b < 0 → a ≠ b → (TJ9 a).2.1 ≠ (TJ9 b).2.1 := by decide +kernel
theorem tyJ9_ok : ∀ k, k < 0 → parseFieldDescriptor (TJ9 k).2.2.1 = some (tyJ9 k) := by decide +kernel
abbrev cJ9_floorMod_7cf53 : ByteArray := prog_14_method_50_code
def yJ9_floorMod_7cf53 : MethodName := ⟨RJ9, "floorMod", "(II)I"⟩
abbrev cJ9_max_7cf53 : ByteArray := prog_14_method_65_code
def yJ9_max_7cf53 : MethodName := ⟨RJ9, "max", "(II)I"⟩
abbrev cJ9_min_7cf53 : ByteArray := prog_14_method_69_code
def yJ9_min_7cf53 : MethodName := ⟨RJ9, "min", "(II)I"⟩
def RJ10 : String := "java/lang/System"
def TJ10 : u_T := fun k => match k with
  | _ => ("", "", "", false)
def tyJ10 : Nat → FieldType := fun k => match k with
  | _ => .int
abbrev wsJ100 : List Cond := u_ws RJ10 TJ10 0
theorem nmJ10 : ∀ a, a < 0 → ∀ b, b < 0 → a ≠ b → (TJ10 a).2.1 ≠ (TJ10 b).2.1 := by decide +kernel
theorem tyJ10_ok : ∀ k, k < 0 → parseFieldDescriptor (TJ10 k).2.2.1 = some (tyJ10 k) := by decide +kernel
def RL : String := "CallRouterLaw"
abbrev cL_law : ByteArray := code
def yL_law : MethodName := ⟨RL, "law", "([I)Z"⟩
abbrev vwCl : List vw_C := [(RX0, TX0, 5), (RX1, TX1, 4), (RX2, TX2, 3), (RX3, TX3, 6), (RX4, TX4, 9), (RX5, TX5, 3), (RX6, TX6, 7), (RX7, TX7, 10), (RX8, TX8, 3), (RX9, TX9, 6), (RX10, TX10, 24)]
end
section
theorem dX0_init_0 : decode cX0_init 0 = .ok (.aload_n 0, 1) := by decide +kernel
theorem dX0_init_1 : decode cX0_init 1 = .ok (.invokespecial 3, 3) := by decide +kernel
theorem dX0_init_4 : decode cX0_init 4 = .ok (.aload_n 0, 1) := by decide +kernel
theorem dX0_init_5 : decode cX0_init 5 = .ok (.bipush 10, 2) := by decide +kernel
theorem dX0_init_7 : decode cX0_init 7 = .ok (.newarray .int, 2) := by decide +kernel
theorem dX0_init_9 : decode cX0_init 9 = .ok (.putfield 9, 3) := by decide +kernel
theorem dX0_init_12 : decode cX0_init 12 = .ok (.aload_n 0, 1) := by decide +kernel
theorem dX0_init_13 : decode cX0_init 13 = .ok (.bipush 10, 2) := by decide +kernel
theorem dX0_init_15 : decode cX0_init 15 = .ok (.newarray .int, 2) := by decide +kernel
theorem dX0_init_17 : decode cX0_init 17 = .ok (.putfield 15, 3) := by decide +kernel
theorem dX0_init_20 : decode cX0_init 20 = .ok (.aload_n 0, 1) := by decide +kernel
theorem dX0_init_21 : decode cX0_init 21 = .ok (.bipush 10, 2) := by decide +kernel
theorem dX0_init_23 : decode cX0_init 23 = .ok (.newarray .int, 2) := by decide +kernel
theorem dX0_init_25 : decode cX0_init 25 = .ok (.putfield 18, 3) := by decide +kernel
theorem dX0_init_28 : decode cX0_init 28 = .ok (.aload_n 0, 1) := by decide +kernel
theorem dX0_init_29 : decode cX0_init 29 = .ok (.bipush 60, 2) := by decide +kernel
theorem dX0_init_31 : decode cX0_init 31 = .ok (.newarray .int, 2) := by decide +kernel
theorem dX0_init_33 : decode cX0_init 33 = .ok (.putfield 21, 3) := by decide +kernel
theorem dX0_init_36 : decode cX0_init 36 = .ok (.aload_n 0, 1) := by decide +kernel
theorem dX0_init_37 : decode cX0_init 37 = .ok (.iconst 0, 1) := by decide +kernel
theorem dX0_init_38 : decode cX0_init 38 = .ok (.putfield 24, 3) := by decide +kernel
theorem dX0_init_41 : decode cX0_init 41 = .ok (.return_, 1) := by decide +kernel
theorem dX0_copyFrom_0 : decode cX0_copyFrom 0 = .ok (.aload_n 1, 1) := by decide +kernel
theorem dX0_copyFrom_1 : decode cX0_copyFrom 1 = .ok (.getfield 9, 3) := by decide +kernel
theorem dX0_copyFrom_4 : decode cX0_copyFrom 4 = .ok (.iconst 0, 1) := by decide +kernel
theorem dX0_copyFrom_5 : decode cX0_copyFrom 5 = .ok (.aload_n 0, 1) := by decide +kernel
theorem dX0_copyFrom_6 : decode cX0_copyFrom 6 = .ok (.getfield 9, 3) := by decide +kernel
theorem dX0_copyFrom_9 : decode cX0_copyFrom 9 = .ok (.iconst 0, 1) := by decide +kernel
theorem dX0_copyFrom_10 : decode cX0_copyFrom 10 = .ok (.bipush 10, 2) := by decide +kernel
theorem dX0_copyFrom_12 : decode cX0_copyFrom 12 = .ok (.invokestatic 28, 3) := by decide +kernel
theorem dX0_copyFrom_15 : decode cX0_copyFrom 15 = .ok (.aload_n 1, 1) := by decide +kernel
theorem dX0_copyFrom_16 : decode cX0_copyFrom 16 = .ok (.getfield 15, 3) := by decide +kernel
theorem dX0_copyFrom_19 : decode cX0_copyFrom 19 = .ok (.iconst 0, 1) := by decide +kernel
theorem dX0_copyFrom_20 : decode cX0_copyFrom 20 = .ok (.aload_n 0, 1) := by decide +kernel
theorem dX0_copyFrom_21 : decode cX0_copyFrom 21 = .ok (.getfield 15, 3) := by decide +kernel
theorem dX0_copyFrom_24 : decode cX0_copyFrom 24 = .ok (.iconst 0, 1) := by decide +kernel
theorem dX0_copyFrom_25 : decode cX0_copyFrom 25 = .ok (.bipush 10, 2) := by decide +kernel
theorem dX0_copyFrom_27 : decode cX0_copyFrom 27 = .ok (.invokestatic 28, 3) := by decide +kernel
theorem dX0_copyFrom_30 : decode cX0_copyFrom 30 = .ok (.aload_n 1, 1) := by decide +kernel
theorem dX0_copyFrom_31 : decode cX0_copyFrom 31 = .ok (.getfield 18, 3) := by decide +kernel
theorem dX0_copyFrom_34 : decode cX0_copyFrom 34 = .ok (.iconst 0, 1) := by decide +kernel
theorem dX0_copyFrom_35 : decode cX0_copyFrom 35 = .ok (.aload_n 0, 1) := by decide +kernel
theorem dX0_copyFrom_36 : decode cX0_copyFrom 36 = .ok (.getfield 18, 3) := by decide +kernel
theorem dX0_copyFrom_39 : decode cX0_copyFrom 39 = .ok (.iconst 0, 1) := by decide +kernel
theorem dX0_copyFrom_40 : decode cX0_copyFrom 40 = .ok (.bipush 10, 2) := by decide +kernel
theorem dX0_copyFrom_42 : decode cX0_copyFrom 42 = .ok (.invokestatic 28, 3) := by decide +kernel
theorem dX0_copyFrom_45 : decode cX0_copyFrom 45 = .ok (.aload_n 1, 1) := by decide +kernel
theorem dX0_copyFrom_46 : decode cX0_copyFrom 46 = .ok (.getfield 21, 3) := by decide +kernel
theorem dX0_copyFrom_49 : decode cX0_copyFrom 49 = .ok (.iconst 0, 1) := by decide +kernel
theorem dX0_copyFrom_50 : decode cX0_copyFrom 50 = .ok (.aload_n 0, 1) := by decide +kernel
theorem dX0_copyFrom_51 : decode cX0_copyFrom 51 = .ok (.getfield 21, 3) := by decide +kernel
theorem dX0_copyFrom_54 : decode cX0_copyFrom 54 = .ok (.iconst 0, 1) := by decide +kernel
theorem dX0_copyFrom_55 : decode cX0_copyFrom 55 = .ok (.bipush 60, 2) := by decide +kernel
theorem dX0_copyFrom_57 : decode cX0_copyFrom 57 = .ok (.invokestatic 28, 3) := by decide +kernel
theorem dX0_copyFrom_60 : decode cX0_copyFrom 60 = .ok (.aload_n 0, 1) := by decide +kernel
theorem dX0_copyFrom_61 : decode cX0_copyFrom 61 = .ok (.aload_n 1, 1) := by decide +kernel
theorem dX0_copyFrom_62 : decode cX0_copyFrom 62 = .ok (.getfield 24, 3) := by decide +kernel
theorem dX0_copyFrom_65 : decode cX0_copyFrom 65 = .ok (.putfield 24, 3) := by decide +kernel
theorem dX0_copyFrom_68 : decode cX0_copyFrom 68 = .ok (.return_, 1) := by decide +kernel
theorem dX0_size_0 : decode cX0_size 0 = .ok (.aload_n 0, 1) := by decide +kernel
theorem dX0_size_1 : decode cX0_size 1 = .ok (.getfield 24, 3) := by decide +kernel
theorem dX0_size_4 : decode cX0_size 4 = .ok (.ireturn, 1) := by decide +kernel
theorem dX0_has_0 : decode cX0_has 0 = .ok (.iload_n 1, 1) := by decide +kernel
theorem dX0_has_1 : decode cX0_has 1 = .ok (.ifCond .lt 22, 3) := by decide +kernel
theorem dX0_has_4 : decode cX0_has 4 = .ok (.iload_n 1, 1) := by decide +kernel
theorem dX0_has_5 : decode cX0_has 5 = .ok (.bipush 10, 2) := by decide +kernel
theorem dX0_has_7 : decode cX0_has 7 = .ok (.if_icmp .ge 16, 3) := by decide +kernel
theorem dX0_has_10 : decode cX0_has 10 = .ok (.aload_n 0, 1) := by decide +kernel
theorem dX0_has_11 : decode cX0_has 11 = .ok (.getfield 9, 3) := by decide +kernel
theorem dX0_has_14 : decode cX0_has 14 = .ok (.iload_n 1, 1) := by decide +kernel
theorem dX0_has_15 : decode cX0_has 15 = .ok (.iaload, 1) := by decide +kernel
theorem dX0_has_16 : decode cX0_has 16 = .ok (.ifCond .eq 7, 3) := by decide +kernel
theorem dX0_has_19 : decode cX0_has 19 = .ok (.iconst 1, 1) := by decide +kernel
theorem dX0_has_20 : decode cX0_has 20 = .ok (.goto 4, 3) := by decide +kernel
theorem dX0_has_23 : decode cX0_has 23 = .ok (.iconst 0, 1) := by decide +kernel
theorem dX0_has_24 : decode cX0_has 24 = .ok (.ireturn, 1) := by decide +kernel
theorem dX0_freePlace_0 : decode cX0_freePlace 0 = .ok (.iconst 0, 1) := by decide +kernel
theorem dX0_freePlace_1 : decode cX0_freePlace 1 = .ok (.istore_n 1, 1) := by decide +kernel
theorem dX0_freePlace_2 : decode cX0_freePlace 2 = .ok (.iload_n 1, 1) := by decide +kernel
theorem dX0_freePlace_3 : decode cX0_freePlace 3 = .ok (.bipush 10, 2) := by decide +kernel
theorem dX0_freePlace_5 : decode cX0_freePlace 5 = .ok (.if_icmp .ge 20, 3) := by decide +kernel
theorem dX0_freePlace_8 : decode cX0_freePlace 8 = .ok (.aload_n 0, 1) := by decide +kernel
theorem dX0_freePlace_9 : decode cX0_freePlace 9 = .ok (.getfield 9, 3) := by decide +kernel
theorem dX0_freePlace_12 : decode cX0_freePlace 12 = .ok (.iload_n 1, 1) := by decide +kernel
theorem dX0_freePlace_13 : decode cX0_freePlace 13 = .ok (.iaload, 1) := by decide +kernel
theorem dX0_freePlace_14 : decode cX0_freePlace 14 = .ok (.ifCond .ne 5, 3) := by decide +kernel
theorem dX0_freePlace_17 : decode cX0_freePlace 17 = .ok (.iload_n 1, 1) := by decide +kernel
theorem dX0_freePlace_18 : decode cX0_freePlace 18 = .ok (.ireturn, 1) := by decide +kernel
theorem dX0_freePlace_19 : decode cX0_freePlace 19 = .ok (.iinc 1 1, 3) := by decide +kernel
theorem dX0_freePlace_22 : decode cX0_freePlace 22 = .ok (.goto (-20), 3) := by decide +kernel
theorem dX0_freePlace_25 : decode cX0_freePlace 25 = .ok (.bipush (-9), 2) := by decide +kernel
theorem dX0_freePlace_27 : decode cX0_freePlace 27 = .ok (.ireturn, 1) := by decide +kernel
theorem dX0_isBusy_0 : decode cX0_isBusy 0 = .ok (.iconst 0, 1) := by decide +kernel
theorem dX0_isBusy_1 : decode cX0_isBusy 1 = .ok (.istore_n 2, 1) := by decide +kernel
theorem dX0_isBusy_2 : decode cX0_isBusy 2 = .ok (.iload_n 2, 1) := by decide +kernel
theorem dX0_isBusy_3 : decode cX0_isBusy 3 = .ok (.bipush 10, 2) := by decide +kernel
theorem dX0_isBusy_5 : decode cX0_isBusy 5 = .ok (.if_icmp .ge 21, 3) := by decide +kernel
theorem dX0_isBusy_8 : decode cX0_isBusy 8 = .ok (.aload_n 0, 1) := by decide +kernel
theorem dX0_isBusy_9 : decode cX0_isBusy 9 = .ok (.getfield 9, 3) := by decide +kernel
theorem dX0_isBusy_12 : decode cX0_isBusy 12 = .ok (.iload_n 2, 1) := by decide +kernel
theorem dX0_isBusy_13 : decode cX0_isBusy 13 = .ok (.iaload, 1) := by decide +kernel
theorem dX0_isBusy_14 : decode cX0_isBusy 14 = .ok (.iload_n 1, 1) := by decide +kernel
theorem dX0_isBusy_15 : decode cX0_isBusy 15 = .ok (.if_icmp .ne 5, 3) := by decide +kernel
theorem dX0_isBusy_18 : decode cX0_isBusy 18 = .ok (.iconst 1, 1) := by decide +kernel
theorem dX0_isBusy_19 : decode cX0_isBusy 19 = .ok (.ireturn, 1) := by decide +kernel
theorem dX0_isBusy_20 : decode cX0_isBusy 20 = .ok (.iinc 2 1, 3) := by decide +kernel
theorem dX0_isBusy_23 : decode cX0_isBusy 23 = .ok (.goto (-21), 3) := by decide +kernel
theorem dX0_isBusy_26 : decode cX0_isBusy 26 = .ok (.iconst 0, 1) := by decide +kernel
theorem dX0_isBusy_27 : decode cX0_isBusy 27 = .ok (.ireturn, 1) := by decide +kernel
theorem dX0_put_0 : decode cX0_put 0 = .ok (.iload_n 1, 1) := by decide +kernel
theorem dX0_put_1 : decode cX0_put 1 = .ok (.iconst 0, 1) := by decide +kernel
theorem dX0_put_2 : decode cX0_put 2 = .ok (.bipush 9, 2) := by decide +kernel
theorem dX0_put_4 : decode cX0_put 4 = .ok (.invokestatic 34, 3) := by decide +kernel
theorem dX0_put_7 : decode cX0_put 7 = .ok (.ifCond .eq 34, 3) := by decide +kernel
theorem dX0_put_10 : decode cX0_put 10 = .ok (.aload_n 0, 1) := by decide +kernel
theorem dX0_put_11 : decode cX0_put 11 = .ok (.getfield 9, 3) := by decide +kernel
theorem dX0_put_14 : decode cX0_put 14 = .ok (.iload_n 1, 1) := by decide +kernel
theorem dX0_put_15 : decode cX0_put 15 = .ok (.iload_n 2, 1) := by decide +kernel
theorem dX0_put_16 : decode cX0_put 16 = .ok (.iastore, 1) := by decide +kernel
theorem dX0_put_17 : decode cX0_put 17 = .ok (.aload_n 0, 1) := by decide +kernel
theorem dX0_put_18 : decode cX0_put 18 = .ok (.getfield 15, 3) := by decide +kernel
theorem dX0_put_21 : decode cX0_put 21 = .ok (.iload_n 1, 1) := by decide +kernel
theorem dX0_put_22 : decode cX0_put 22 = .ok (.iload_n 3, 1) := by decide +kernel
theorem dX0_put_23 : decode cX0_put 23 = .ok (.iastore, 1) := by decide +kernel
theorem dX0_put_24 : decode cX0_put 24 = .ok (.aload_n 0, 1) := by decide +kernel
theorem dX0_put_25 : decode cX0_put 25 = .ok (.getfield 18, 3) := by decide +kernel
theorem dX0_put_28 : decode cX0_put 28 = .ok (.iload_n 1, 1) := by decide +kernel
theorem dX0_put_29 : decode cX0_put 29 = .ok (.iconst 0, 1) := by decide +kernel
theorem dX0_put_30 : decode cX0_put 30 = .ok (.iastore, 1) := by decide +kernel
theorem dX0_put_31 : decode cX0_put 31 = .ok (.aload_n 0, 1) := by decide +kernel
theorem dX0_put_32 : decode cX0_put 32 = .ok (.dup, 1) := by decide +kernel
theorem dX0_put_33 : decode cX0_put 33 = .ok (.getfield 24, 3) := by decide +kernel
theorem dX0_put_36 : decode cX0_put 36 = .ok (.iconst 1, 1) := by decide +kernel
theorem dX0_put_37 : decode cX0_put 37 = .ok (.iadd, 1) := by decide +kernel
theorem dX0_put_38 : decode cX0_put 38 = .ok (.putfield 24, 3) := by decide +kernel
theorem dX0_put_41 : decode cX0_put 41 = .ok (.return_, 1) := by decide +kernel
theorem dX0_addStep_0 : decode cX0_addStep 0 = .ok (.aload_n 0, 1) := by decide +kernel
theorem dX0_addStep_1 : decode cX0_addStep 1 = .ok (.iload_n 1, 1) := by decide +kernel
theorem dX0_addStep_2 : decode cX0_addStep 2 = .ok (.invokevirtual 38, 3) := by decide +kernel
theorem dX0_addStep_5 : decode cX0_addStep 5 = .ok (.ifCond .eq 44, 3) := by decide +kernel
theorem dX0_addStep_8 : decode cX0_addStep 8 = .ok (.aload_n 0, 1) := by decide +kernel
theorem dX0_addStep_9 : decode cX0_addStep 9 = .ok (.getfield 18, 3) := by decide +kernel
theorem dX0_addStep_12 : decode cX0_addStep 12 = .ok (.iload_n 1, 1) := by decide +kernel
theorem dX0_addStep_13 : decode cX0_addStep 13 = .ok (.iaload, 1) := by decide +kernel
theorem dX0_addStep_14 : decode cX0_addStep 14 = .ok (.iconst 0, 1) := by decide +kernel
theorem dX0_addStep_15 : decode cX0_addStep 15 = .ok (.iconst 5, 1) := by decide +kernel
theorem dX0_addStep_16 : decode cX0_addStep 16 = .ok (.invokestatic 34, 3) := by decide +kernel
theorem dX0_addStep_19 : decode cX0_addStep 19 = .ok (.ifCond .eq 30, 3) := by decide +kernel
theorem dX0_addStep_22 : decode cX0_addStep 22 = .ok (.aload_n 0, 1) := by decide +kernel
theorem dX0_addStep_23 : decode cX0_addStep 23 = .ok (.getfield 21, 3) := by decide +kernel
theorem dX0_addStep_26 : decode cX0_addStep 26 = .ok (.iload_n 1, 1) := by decide +kernel
theorem dX0_addStep_27 : decode cX0_addStep 27 = .ok (.bipush 6, 2) := by decide +kernel
theorem dX0_addStep_29 : decode cX0_addStep 29 = .ok (.imul, 1) := by decide +kernel
theorem dX0_addStep_30 : decode cX0_addStep 30 = .ok (.aload_n 0, 1) := by decide +kernel
theorem dX0_addStep_31 : decode cX0_addStep 31 = .ok (.getfield 18, 3) := by decide +kernel
theorem dX0_addStep_34 : decode cX0_addStep 34 = .ok (.iload_n 1, 1) := by decide +kernel
theorem dX0_addStep_35 : decode cX0_addStep 35 = .ok (.iaload, 1) := by decide +kernel
theorem dX0_addStep_36 : decode cX0_addStep 36 = .ok (.iadd, 1) := by decide +kernel
theorem dX0_addStep_37 : decode cX0_addStep 37 = .ok (.iload_n 2, 1) := by decide +kernel
theorem dX0_addStep_38 : decode cX0_addStep 38 = .ok (.iastore, 1) := by decide +kernel
theorem dX0_addStep_39 : decode cX0_addStep 39 = .ok (.aload_n 0, 1) := by decide +kernel
theorem dX0_addStep_40 : decode cX0_addStep 40 = .ok (.getfield 18, 3) := by decide +kernel
theorem dX0_addStep_43 : decode cX0_addStep 43 = .ok (.iload_n 1, 1) := by decide +kernel
theorem dX0_addStep_44 : decode cX0_addStep 44 = .ok (.dup2, 1) := by decide +kernel
theorem dX0_addStep_45 : decode cX0_addStep 45 = .ok (.iaload, 1) := by decide +kernel
theorem dX0_addStep_46 : decode cX0_addStep 46 = .ok (.iconst 1, 1) := by decide +kernel
theorem dX0_addStep_47 : decode cX0_addStep 47 = .ok (.iadd, 1) := by decide +kernel
theorem dX0_addStep_48 : decode cX0_addStep 48 = .ok (.iastore, 1) := by decide +kernel
theorem dX0_addStep_49 : decode cX0_addStep 49 = .ok (.return_, 1) := by decide +kernel
theorem dX0_remove_0 : decode cX0_remove 0 = .ok (.aload_n 0, 1) := by decide +kernel
theorem dX0_remove_1 : decode cX0_remove 1 = .ok (.iload_n 1, 1) := by decide +kernel
theorem dX0_remove_2 : decode cX0_remove 2 = .ok (.invokevirtual 38, 3) := by decide +kernel
theorem dX0_remove_5 : decode cX0_remove 5 = .ok (.ifCond .eq 20, 3) := by decide +kernel
theorem dX0_remove_8 : decode cX0_remove 8 = .ok (.aload_n 0, 1) := by decide +kernel
theorem dX0_remove_9 : decode cX0_remove 9 = .ok (.getfield 9, 3) := by decide +kernel
theorem dX0_remove_12 : decode cX0_remove 12 = .ok (.iload_n 1, 1) := by decide +kernel
theorem dX0_remove_13 : decode cX0_remove 13 = .ok (.iconst 0, 1) := by decide +kernel
theorem dX0_remove_14 : decode cX0_remove 14 = .ok (.iastore, 1) := by decide +kernel
theorem dX0_remove_15 : decode cX0_remove 15 = .ok (.aload_n 0, 1) := by decide +kernel
theorem dX0_remove_16 : decode cX0_remove 16 = .ok (.dup, 1) := by decide +kernel
theorem dX0_remove_17 : decode cX0_remove 17 = .ok (.getfield 24, 3) := by decide +kernel
theorem dX0_remove_20 : decode cX0_remove 20 = .ok (.iconst 1, 1) := by decide +kernel
theorem dX0_remove_21 : decode cX0_remove 21 = .ok (.isub, 1) := by decide +kernel
theorem dX0_remove_22 : decode cX0_remove 22 = .ok (.putfield 24, 3) := by decide +kernel
theorem dX0_remove_25 : decode cX0_remove 25 = .ok (.return_, 1) := by decide +kernel
theorem dX0_numberAt_0 : decode cX0_numberAt 0 = .ok (.aload_n 0, 1) := by decide +kernel
theorem dX0_numberAt_1 : decode cX0_numberAt 1 = .ok (.iload_n 1, 1) := by decide +kernel
theorem dX0_numberAt_2 : decode cX0_numberAt 2 = .ok (.invokevirtual 38, 3) := by decide +kernel
theorem dX0_numberAt_5 : decode cX0_numberAt 5 = .ok (.ifCond .eq 12, 3) := by decide +kernel
theorem dX0_numberAt_8 : decode cX0_numberAt 8 = .ok (.aload_n 0, 1) := by decide +kernel
theorem dX0_numberAt_9 : decode cX0_numberAt 9 = .ok (.getfield 9, 3) := by decide +kernel
theorem dX0_numberAt_12 : decode cX0_numberAt 12 = .ok (.iload_n 1, 1) := by decide +kernel
theorem dX0_numberAt_13 : decode cX0_numberAt 13 = .ok (.iaload, 1) := by decide +kernel
theorem dX0_numberAt_14 : decode cX0_numberAt 14 = .ok (.goto 5, 3) := by decide +kernel
theorem dX0_numberAt_17 : decode cX0_numberAt 17 = .ok (.bipush (-9), 2) := by decide +kernel
theorem dX0_numberAt_19 : decode cX0_numberAt 19 = .ok (.ireturn, 1) := by decide +kernel
theorem dX0_startOf_0 : decode cX0_startOf 0 = .ok (.aload_n 0, 1) := by decide +kernel
theorem dX0_startOf_1 : decode cX0_startOf 1 = .ok (.iload_n 1, 1) := by decide +kernel
theorem dX0_startOf_2 : decode cX0_startOf 2 = .ok (.invokevirtual 38, 3) := by decide +kernel
theorem dX0_startOf_5 : decode cX0_startOf 5 = .ok (.ifCond .eq 12, 3) := by decide +kernel
theorem dX0_startOf_8 : decode cX0_startOf 8 = .ok (.aload_n 0, 1) := by decide +kernel
theorem dX0_startOf_9 : decode cX0_startOf 9 = .ok (.getfield 15, 3) := by decide +kernel
theorem dX0_startOf_12 : decode cX0_startOf 12 = .ok (.iload_n 1, 1) := by decide +kernel
theorem dX0_startOf_13 : decode cX0_startOf 13 = .ok (.iaload, 1) := by decide +kernel
theorem dX0_startOf_14 : decode cX0_startOf 14 = .ok (.goto 4, 3) := by decide +kernel
theorem dX0_startOf_17 : decode cX0_startOf 17 = .ok (.iconst 0, 1) := by decide +kernel
theorem dX0_startOf_18 : decode cX0_startOf 18 = .ok (.ireturn, 1) := by decide +kernel
theorem dX0_length_0 : decode cX0_length 0 = .ok (.aload_n 0, 1) := by decide +kernel
theorem dX0_length_1 : decode cX0_length 1 = .ok (.iload_n 1, 1) := by decide +kernel
theorem dX0_length_2 : decode cX0_length 2 = .ok (.invokevirtual 38, 3) := by decide +kernel
theorem dX0_length_5 : decode cX0_length 5 = .ok (.ifCond .eq 12, 3) := by decide +kernel
theorem dX0_length_8 : decode cX0_length 8 = .ok (.aload_n 0, 1) := by decide +kernel
theorem dX0_length_9 : decode cX0_length 9 = .ok (.getfield 18, 3) := by decide +kernel
theorem dX0_length_12 : decode cX0_length 12 = .ok (.iload_n 1, 1) := by decide +kernel
theorem dX0_length_13 : decode cX0_length 13 = .ok (.iaload, 1) := by decide +kernel
theorem dX0_length_14 : decode cX0_length 14 = .ok (.goto 4, 3) := by decide +kernel
theorem dX0_length_17 : decode cX0_length 17 = .ok (.iconst 0, 1) := by decide +kernel
theorem dX0_length_18 : decode cX0_length 18 = .ok (.ireturn, 1) := by decide +kernel
theorem dX0_step_0 : decode cX0_step 0 = .ok (.iload_n 2, 1) := by decide +kernel
theorem dX0_step_1 : decode cX0_step 1 = .ok (.ifCond .lt 32, 3) := by decide +kernel
theorem dX0_step_4 : decode cX0_step 4 = .ok (.iload_n 2, 1) := by decide +kernel
theorem dX0_step_5 : decode cX0_step 5 = .ok (.aload_n 0, 1) := by decide +kernel
theorem dX0_step_6 : decode cX0_step 6 = .ok (.iload_n 1, 1) := by decide +kernel
theorem dX0_step_7 : decode cX0_step 7 = .ok (.invokevirtual 42, 3) := by decide +kernel
theorem dX0_step_10 : decode cX0_step 10 = .ok (.if_icmp .ge 23, 3) := by decide +kernel
theorem dX0_step_13 : decode cX0_step 13 = .ok (.iload_n 2, 1) := by decide +kernel
theorem dX0_step_14 : decode cX0_step 14 = .ok (.bipush 6, 2) := by decide +kernel
theorem dX0_step_16 : decode cX0_step 16 = .ok (.if_icmp .ge 17, 3) := by decide +kernel
theorem dX0_step_19 : decode cX0_step 19 = .ok (.aload_n 0, 1) := by decide +kernel
theorem dX0_step_20 : decode cX0_step 20 = .ok (.getfield 21, 3) := by decide +kernel
theorem dX0_step_23 : decode cX0_step 23 = .ok (.iload_n 1, 1) := by decide +kernel
theorem dX0_step_24 : decode cX0_step 24 = .ok (.bipush 6, 2) := by decide +kernel
theorem dX0_step_26 : decode cX0_step 26 = .ok (.imul, 1) := by decide +kernel
theorem dX0_step_27 : decode cX0_step 27 = .ok (.iload_n 2, 1) := by decide +kernel
theorem dX0_step_28 : decode cX0_step 28 = .ok (.iadd, 1) := by decide +kernel
theorem dX0_step_29 : decode cX0_step 29 = .ok (.iaload, 1) := by decide +kernel
theorem dX0_step_30 : decode cX0_step 30 = .ok (.goto 5, 3) := by decide +kernel
theorem dX0_step_33 : decode cX0_step 33 = .ok (.bipush (-9), 2) := by decide +kernel
theorem dX0_step_35 : decode cX0_step 35 = .ok (.ireturn, 1) := by decide +kernel
theorem dX1_init_0 : decode cX1_init 0 = .ok (.aload_n 0, 1) := by decide +kernel
theorem dX1_init_1 : decode cX1_init 1 = .ok (.invokespecial 3, 3) := by decide +kernel
theorem dX1_init_4 : decode cX1_init 4 = .ok (.aload_n 0, 1) := by decide +kernel
theorem dX1_init_5 : decode cX1_init 5 = .ok (.bipush 64, 2) := by decide +kernel
theorem dX1_init_7 : decode cX1_init 7 = .ok (.newarray .int, 2) := by decide +kernel
theorem dX1_init_9 : decode cX1_init 9 = .ok (.putfield 9, 3) := by decide +kernel
theorem dX1_init_12 : decode cX1_init 12 = .ok (.aload_n 0, 1) := by decide +kernel
theorem dX1_init_13 : decode cX1_init 13 = .ok (.bipush 64, 2) := by decide +kernel
theorem dX1_init_15 : decode cX1_init 15 = .ok (.newarray .int, 2) := by decide +kernel
theorem dX1_init_17 : decode cX1_init 17 = .ok (.putfield 15, 3) := by decide +kernel
theorem dX1_init_20 : decode cX1_init 20 = .ok (.aload_n 0, 1) := by decide +kernel
theorem dX1_init_21 : decode cX1_init 21 = .ok (.iconst 0, 1) := by decide +kernel
theorem dX1_init_22 : decode cX1_init 22 = .ok (.putfield 18, 3) := by decide +kernel
theorem dX1_init_25 : decode cX1_init 25 = .ok (.aload_n 0, 1) := by decide +kernel
theorem dX1_init_26 : decode cX1_init 26 = .ok (.ldc 22, 2) := by decide +kernel
theorem dX1_init_28 : decode cX1_init 28 = .ok (.putfield 23, 3) := by decide +kernel
theorem dX1_init_31 : decode cX1_init 31 = .ok (.return_, 1) := by decide +kernel
theorem dX1_search_0 : decode cX1_search 0 = .ok (.aload_n 0, 1) := by decide +kernel
theorem dX1_search_1 : decode cX1_search 1 = .ok (.iload_n 3, 1) := by decide +kernel
theorem dX1_search_2 : decode cX1_search 2 = .ok (.putfield 18, 3) := by decide +kernel
theorem dX1_search_5 : decode cX1_search 5 = .ok (.aload_n 0, 1) := by decide +kernel
theorem dX1_search_6 : decode cX1_search 6 = .ok (.ldc 22, 2) := by decide +kernel
theorem dX1_search_8 : decode cX1_search 8 = .ok (.putfield 23, 3) := by decide +kernel
theorem dX1_search_11 : decode cX1_search 11 = .ok (.aload_n 0, 1) := by decide +kernel
theorem dX1_search_12 : decode cX1_search 12 = .ok (.aload_n 1, 1) := by decide +kernel
theorem dX1_search_13 : decode cX1_search 13 = .ok (.aload_n 0, 1) := by decide +kernel
theorem dX1_search_14 : decode cX1_search 14 = .ok (.getfield 9, 3) := by decide +kernel
theorem dX1_search_17 : decode cX1_search 17 = .ok (.bipush (-9), 2) := by decide +kernel
theorem dX1_search_19 : decode cX1_search 19 = .ok (.invokevirtual 26, 3) := by decide +kernel
theorem dX1_search_22 : decode cX1_search 22 = .ok (.aload_n 1, 1) := by decide +kernel
theorem dX1_search_23 : decode cX1_search 23 = .ok (.invokevirtual 30, 3) := by decide +kernel
theorem dX1_search_26 : decode cX1_search 26 = .ok (.iload_n 3, 1) := by decide +kernel
theorem dX1_search_27 : decode cX1_search 27 = .ok (.invokevirtual 36, 3) := by decide +kernel
theorem dX1_search_30 : decode cX1_search 30 = .ok (.istore 4, 2) := by decide +kernel
theorem dX1_search_32 : decode cX1_search 32 = .ok (.iload 4, 2) := by decide +kernel
theorem dX1_search_34 : decode cX1_search 34 = .ok (.bipush (-9), 2) := by decide +kernel
theorem dX1_search_36 : decode cX1_search 36 = .ok (.if_icmp .eq 14, 3) := by decide +kernel
theorem dX1_search_39 : decode cX1_search 39 = .ok (.aload_n 0, 1) := by decide +kernel
theorem dX1_search_40 : decode cX1_search 40 = .ok (.aload_n 1, 1) := by decide +kernel
theorem dX1_search_41 : decode cX1_search 41 = .ok (.aload_n 0, 1) := by decide +kernel
theorem dX1_search_42 : decode cX1_search 42 = .ok (.getfield 15, 3) := by decide +kernel
theorem dX1_search_45 : decode cX1_search 45 = .ok (.iload 4, 2) := by decide +kernel
theorem dX1_search_47 : decode cX1_search 47 = .ok (.invokevirtual 26, 3) := by decide +kernel
theorem dX1_search_50 : decode cX1_search 50 = .ok (.aload_n 0, 1) := by decide +kernel
theorem dX1_search_51 : decode cX1_search 51 = .ok (.aload_n 1, 1) := by decide +kernel
theorem dX1_search_52 : decode cX1_search 52 = .ok (.iload_n 2, 1) := by decide +kernel
theorem dX1_search_53 : decode cX1_search 53 = .ok (.iconst 0, 1) := by decide +kernel
theorem dX1_search_54 : decode cX1_search 54 = .ok (.bipush (-9), 2) := by decide +kernel
theorem dX1_search_56 : decode cX1_search 56 = .ok (.iconst 0, 1) := by decide +kernel
theorem dX1_search_57 : decode cX1_search 57 = .ok (.invokevirtual 42, 3) := by decide +kernel
theorem dX1_search_60 : decode cX1_search 60 = .ok (.aload_n 0, 1) := by decide +kernel
theorem dX1_search_61 : decode cX1_search 61 = .ok (.getfield 23, 3) := by decide +kernel
theorem dX1_search_64 : decode cX1_search 64 = .ok (.ldc 22, 2) := by decide +kernel
theorem dX1_search_66 : decode cX1_search 66 = .ok (.if_icmp .ne 8, 3) := by decide +kernel
theorem dX1_search_69 : decode cX1_search 69 = .ok (.bipush (-9), 2) := by decide +kernel
theorem dX1_search_71 : decode cX1_search 71 = .ok (.goto 7, 3) := by decide +kernel
theorem dX1_search_74 : decode cX1_search 74 = .ok (.aload_n 0, 1) := by decide +kernel
theorem dX1_search_75 : decode cX1_search 75 = .ok (.getfield 23, 3) := by decide +kernel
theorem dX1_search_78 : decode cX1_search 78 = .ok (.ireturn, 1) := by decide +kernel
theorem dX1_fill_0 : decode cX1_fill 0 = .ok (.iconst 0, 1) := by decide +kernel
theorem dX1_fill_1 : decode cX1_fill 1 = .ok (.istore 4, 2) := by decide +kernel
theorem dX1_fill_3 : decode cX1_fill 3 = .ok (.iload 4, 2) := by decide +kernel
theorem dX1_fill_5 : decode cX1_fill 5 = .ok (.aload_n 2, 1) := by decide +kernel
theorem dX1_fill_6 : decode cX1_fill 6 = .ok (.arraylength, 1) := by decide +kernel
theorem dX1_fill_7 : decode cX1_fill 7 = .ok (.if_icmp .ge 15, 3) := by decide +kernel
theorem dX1_fill_10 : decode cX1_fill 10 = .ok (.aload_n 2, 1) := by decide +kernel
theorem dX1_fill_11 : decode cX1_fill 11 = .ok (.iload 4, 2) := by decide +kernel
theorem dX1_fill_13 : decode cX1_fill 13 = .ok (.ldc 22, 2) := by decide +kernel
theorem dX1_fill_15 : decode cX1_fill 15 = .ok (.iastore, 1) := by decide +kernel
theorem dX1_fill_16 : decode cX1_fill 16 = .ok (.iinc 4 1, 3) := by decide +kernel
theorem dX1_fill_19 : decode cX1_fill 19 = .ok (.goto (-16), 3) := by decide +kernel
theorem dX1_fill_22 : decode cX1_fill 22 = .ok (.aload_n 0, 1) := by decide +kernel
theorem dX1_fill_23 : decode cX1_fill 23 = .ok (.getfield 18, 3) := by decide +kernel
theorem dX1_fill_26 : decode cX1_fill 26 = .ok (.iload_n 3, 1) := by decide +kernel
theorem dX1_fill_27 : decode cX1_fill 27 = .ok (.invokestatic 46, 3) := by decide +kernel
theorem dX1_fill_30 : decode cX1_fill 30 = .ok (.lstore 4, 2) := by decide +kernel
theorem dX1_fill_32 : decode cX1_fill 32 = .ok (.iconst 0, 1) := by decide +kernel
theorem dX1_fill_33 : decode cX1_fill 33 = .ok (.istore 6, 2) := by decide +kernel
theorem dX1_fill_35 : decode cX1_fill 35 = .ok (.iload 6, 2) := by decide +kernel
theorem dX1_fill_37 : decode cX1_fill 37 = .ok (.aload_n 1, 1) := by decide +kernel
theorem dX1_fill_38 : decode cX1_fill 38 = .ok (.invokevirtual 50, 3) := by decide +kernel
theorem dX1_fill_41 : decode cX1_fill 41 = .ok (.if_icmp .ge 28, 3) := by decide +kernel
theorem dX1_fill_44 : decode cX1_fill 44 = .ok (.aload_n 0, 1) := by decide +kernel
theorem dX1_fill_45 : decode cX1_fill 45 = .ok (.aload_n 1, 1) := by decide +kernel
theorem dX1_fill_46 : decode cX1_fill 46 = .ok (.aload_n 2, 1) := by decide +kernel
theorem dX1_fill_47 : decode cX1_fill 47 = .ok (.iload 6, 2) := by decide +kernel
theorem dX1_fill_49 : decode cX1_fill 49 = .ok (.aload_n 1, 1) := by decide +kernel
theorem dX1_fill_50 : decode cX1_fill 50 = .ok (.invokevirtual 54, 3) := by decide +kernel
theorem dX1_fill_53 : decode cX1_fill 53 = .ok (.iload 6, 2) := by decide +kernel
theorem dX1_fill_55 : decode cX1_fill 55 = .ok (.lload 4, 2) := by decide +kernel
theorem dX1_fill_57 : decode cX1_fill 57 = .ok (.invokevirtual 58, 3) := by decide +kernel
theorem dX1_fill_60 : decode cX1_fill 60 = .ok (.invokevirtual 64, 3) := by decide +kernel
theorem dX1_fill_63 : decode cX1_fill 63 = .ok (.iinc 6 1, 3) := by decide +kernel
theorem dX1_fill_66 : decode cX1_fill 66 = .ok (.goto (-31), 3) := by decide +kernel
theorem dX1_fill_69 : decode cX1_fill 69 = .ok (.return_, 1) := by decide +kernel
theorem dX1_fillSwitch_0 : decode cX1_fillSwitch 0 = .ok (.aload_n 1, 1) := by decide +kernel
theorem dX1_fillSwitch_1 : decode cX1_fillSwitch 1 = .ok (.invokevirtual 54, 3) := by decide +kernel
theorem dX1_fillSwitch_4 : decode cX1_fillSwitch 4 = .ok (.astore 5, 2) := by decide +kernel
theorem dX1_fillSwitch_6 : decode cX1_fillSwitch 6 = .ok (.aload_n 1, 1) := by decide +kernel
theorem dX1_fillSwitch_7 : decode cX1_fillSwitch 7 = .ok (.invokevirtual 68, 3) := by decide +kernel
theorem dX1_fillSwitch_10 : decode cX1_fillSwitch 10 = .ok (.invokestatic 71, 3) := by decide +kernel
theorem dX1_fillSwitch_13 : decode cX1_fillSwitch 13 = .ok (.istore 6, 2) := by decide +kernel
theorem dX1_fillSwitch_15 : decode cX1_fillSwitch 15 = .ok (.iconst 0, 1) := by decide +kernel
theorem dX1_fillSwitch_16 : decode cX1_fillSwitch 16 = .ok (.istore 7, 2) := by decide +kernel
theorem dX1_fillSwitch_18 : decode cX1_fillSwitch 18 = .ok (.iload 7, 2) := by decide +kernel
theorem dX1_fillSwitch_20 : decode cX1_fillSwitch 20 = .ok (.aload 5, 2) := by decide +kernel
theorem dX1_fillSwitch_22 : decode cX1_fillSwitch 22 = .ok (.invokevirtual 74, 3) := by decide +kernel
theorem dX1_fillSwitch_25 : decode cX1_fillSwitch 25 = .ok (.if_icmp .ge 86, 3) := by decide +kernel
theorem dX1_fillSwitch_28 : decode cX1_fillSwitch 28 = .ok (.iload_n 3, 1) := by decide +kernel
theorem dX1_fillSwitch_29 : decode cX1_fillSwitch 29 = .ok (.bipush 8, 2) := by decide +kernel
theorem dX1_fillSwitch_31 : decode cX1_fillSwitch 31 = .ok (.imul, 1) := by decide +kernel
theorem dX1_fillSwitch_32 : decode cX1_fillSwitch 32 = .ok (.aload 5, 2) := by decide +kernel
theorem dX1_fillSwitch_34 : decode cX1_fillSwitch 34 = .ok (.iload 7, 2) := by decide +kernel
theorem dX1_fillSwitch_36 : decode cX1_fillSwitch 36 = .ok (.invokevirtual 77, 3) := by decide +kernel
theorem dX1_fillSwitch_39 : decode cX1_fillSwitch 39 = .ok (.iadd, 1) := by decide +kernel
theorem dX1_fillSwitch_40 : decode cX1_fillSwitch 40 = .ok (.istore 8, 2) := by decide +kernel
theorem dX1_fillSwitch_42 : decode cX1_fillSwitch 42 = .ok (.aload 5, 2) := by decide +kernel
theorem dX1_fillSwitch_44 : decode cX1_fillSwitch 44 = .ok (.iload 7, 2) := by decide +kernel
theorem dX1_fillSwitch_46 : decode cX1_fillSwitch 46 = .ok (.iload_n 3, 1) := by decide +kernel
theorem dX1_fillSwitch_47 : decode cX1_fillSwitch 47 = .ok (.iload 4, 2) := by decide +kernel
theorem dX1_fillSwitch_49 : decode cX1_fillSwitch 49 = .ok (.invokevirtual 80, 3) := by decide +kernel
theorem dX1_fillSwitch_52 : decode cX1_fillSwitch 52 = .ok (.ifCond .eq 53, 3) := by decide +kernel
theorem dX1_fillSwitch_55 : decode cX1_fillSwitch 55 = .ok (.iload 8, 2) := by decide +kernel
theorem dX1_fillSwitch_57 : decode cX1_fillSwitch 57 = .ok (.ifCond .lt 48, 3) := by decide +kernel
theorem dX1_fillSwitch_60 : decode cX1_fillSwitch 60 = .ok (.iload 8, 2) := by decide +kernel
theorem dX1_fillSwitch_62 : decode cX1_fillSwitch 62 = .ok (.aload_n 2, 1) := by decide +kernel
theorem dX1_fillSwitch_63 : decode cX1_fillSwitch 63 = .ok (.arraylength, 1) := by decide +kernel
theorem dX1_fillSwitch_64 : decode cX1_fillSwitch 64 = .ok (.if_icmp .ge 41, 3) := by decide +kernel
theorem dX1_fillSwitch_67 : decode cX1_fillSwitch 67 = .ok (.aload 5, 2) := by decide +kernel
theorem dX1_fillSwitch_69 : decode cX1_fillSwitch 69 = .ok (.iload 7, 2) := by decide +kernel
theorem dX1_fillSwitch_71 : decode cX1_fillSwitch 71 = .ok (.invokevirtual 84, 3) := by decide +kernel
theorem dX1_fillSwitch_74 : decode cX1_fillSwitch 74 = .ok (.ifCond .eq 7, 3) := by decide +kernel
theorem dX1_fillSwitch_77 : decode cX1_fillSwitch 77 = .ok (.iconst 0, 1) := by decide +kernel
theorem dX1_fillSwitch_78 : decode cX1_fillSwitch 78 = .ok (.goto 12, 3) := by decide +kernel
theorem dX1_fillSwitch_81 : decode cX1_fillSwitch 81 = .ok (.aload 5, 2) := by decide +kernel
theorem dX1_fillSwitch_83 : decode cX1_fillSwitch 83 = .ok (.iload 7, 2) := by decide +kernel
theorem dX1_fillSwitch_85 : decode cX1_fillSwitch 85 = .ok (.iload 6, 2) := by decide +kernel
theorem dX1_fillSwitch_87 : decode cX1_fillSwitch 87 = .ok (.invokevirtual 88, 3) := by decide +kernel
theorem dX1_fillSwitch_90 : decode cX1_fillSwitch 90 = .ok (.istore 9, 2) := by decide +kernel
theorem dX1_fillSwitch_92 : decode cX1_fillSwitch 92 = .ok (.aload_n 2, 1) := by decide +kernel
theorem dX1_fillSwitch_93 : decode cX1_fillSwitch 93 = .ok (.iload 8, 2) := by decide +kernel
theorem dX1_fillSwitch_95 : decode cX1_fillSwitch 95 = .ok (.aload_n 2, 1) := by decide +kernel
theorem dX1_fillSwitch_96 : decode cX1_fillSwitch 96 = .ok (.iload 8, 2) := by decide +kernel
theorem dX1_fillSwitch_98 : decode cX1_fillSwitch 98 = .ok (.iaload, 1) := by decide +kernel
theorem dX1_fillSwitch_99 : decode cX1_fillSwitch 99 = .ok (.iload 9, 2) := by decide +kernel
theorem dX1_fillSwitch_101 : decode cX1_fillSwitch 101 = .ok (.invokestatic 92, 3) := by decide +kernel
theorem dX1_fillSwitch_104 : decode cX1_fillSwitch 104 = .ok (.iastore, 1) := by decide +kernel
theorem dX1_fillSwitch_105 : decode cX1_fillSwitch 105 = .ok (.iinc 7 1, 3) := by decide +kernel
theorem dX1_fillSwitch_108 : decode cX1_fillSwitch 108 = .ok (.goto (-90), 3) := by decide +kernel
theorem dX1_fillSwitch_111 : decode cX1_fillSwitch 111 = .ok (.return_, 1) := by decide +kernel
theorem dX1_costBetween_0 : decode cX1_costBetween 0 = .ok (.iload_n 1, 1) := by decide +kernel
theorem dX1_costBetween_1 : decode cX1_costBetween 1 = .ok (.bipush 8, 2) := by decide +kernel
theorem dX1_costBetween_3 : decode cX1_costBetween 3 = .ok (.imul, 1) := by decide +kernel
theorem dX1_costBetween_4 : decode cX1_costBetween 4 = .ok (.iload_n 2, 1) := by decide +kernel
theorem dX1_costBetween_5 : decode cX1_costBetween 5 = .ok (.iadd, 1) := by decide +kernel
theorem dX1_costBetween_6 : decode cX1_costBetween 6 = .ok (.istore 4, 2) := by decide +kernel
theorem dX1_costBetween_8 : decode cX1_costBetween 8 = .ok (.iload 4, 2) := by decide +kernel
theorem dX1_costBetween_10 : decode cX1_costBetween 10 = .ok (.ifCond .lt 10, 3) := by decide +kernel
theorem dX1_costBetween_13 : decode cX1_costBetween 13 = .ok (.iload 4, 2) := by decide +kernel
theorem dX1_costBetween_15 : decode cX1_costBetween 15 = .ok (.bipush 64, 2) := by decide +kernel
theorem dX1_costBetween_17 : decode cX1_costBetween 17 = .ok (.if_icmp .lt 6, 3) := by decide +kernel
theorem dX1_costBetween_20 : decode cX1_costBetween 20 = .ok (.ldc 22, 2) := by decide +kernel
theorem dX1_costBetween_22 : decode cX1_costBetween 22 = .ok (.ireturn, 1) := by decide +kernel
theorem dX1_costBetween_23 : decode cX1_costBetween 23 = .ok (.iload_n 3, 1) := by decide +kernel
theorem dX1_costBetween_24 : decode cX1_costBetween 24 = .ok (.bipush (-9), 2) := by decide +kernel
theorem dX1_costBetween_26 : decode cX1_costBetween 26 = .ok (.if_icmp .ne 13, 3) := by decide +kernel
theorem dX1_costBetween_29 : decode cX1_costBetween 29 = .ok (.aload_n 0, 1) := by decide +kernel
theorem dX1_costBetween_30 : decode cX1_costBetween 30 = .ok (.getfield 9, 3) := by decide +kernel
theorem dX1_costBetween_33 : decode cX1_costBetween 33 = .ok (.iload 4, 2) := by decide +kernel
theorem dX1_costBetween_35 : decode cX1_costBetween 35 = .ok (.iaload, 1) := by decide +kernel
theorem dX1_costBetween_36 : decode cX1_costBetween 36 = .ok (.goto 10, 3) := by decide +kernel
theorem dX1_costBetween_39 : decode cX1_costBetween 39 = .ok (.aload_n 0, 1) := by decide +kernel
theorem dX1_costBetween_40 : decode cX1_costBetween 40 = .ok (.getfield 15, 3) := by decide +kernel
theorem dX1_costBetween_43 : decode cX1_costBetween 43 = .ok (.iload 4, 2) := by decide +kernel
theorem dX1_costBetween_45 : decode cX1_costBetween 45 = .ok (.iaload, 1) := by decide +kernel
theorem dX1_costBetween_46 : decode cX1_costBetween 46 = .ok (.ireturn, 1) := by decide +kernel
theorem dX1_arrive_0 : decode cX1_arrive 0 = .ok (.iload_n 3, 1) := by decide +kernel
theorem dX1_arrive_1 : decode cX1_arrive 1 = .ok (.invokestatic 97, 3) := by decide +kernel
theorem dX1_arrive_4 : decode cX1_arrive 4 = .ok (.istore 6, 2) := by decide +kernel
theorem dX1_arrive_6 : decode cX1_arrive 6 = .ok (.iload_n 3, 1) := by decide +kernel
theorem dX1_arrive_7 : decode cX1_arrive 7 = .ok (.iload_n 2, 1) := by decide +kernel
theorem dX1_arrive_8 : decode cX1_arrive 8 = .ok (.ishr, 1) := by decide +kernel
theorem dX1_arrive_9 : decode cX1_arrive 9 = .ok (.iconst 1, 1) := by decide +kernel
theorem dX1_arrive_10 : decode cX1_arrive 10 = .ok (.iand, 1) := by decide +kernel
theorem dX1_arrive_11 : decode cX1_arrive 11 = .ok (.ifCond .ne 28, 3) := by decide +kernel
theorem dX1_arrive_14 : decode cX1_arrive 14 = .ok (.iload 6, 2) := by decide +kernel
theorem dX1_arrive_16 : decode cX1_arrive 16 = .ok (.aload_n 1, 1) := by decide +kernel
theorem dX1_arrive_17 : decode cX1_arrive 17 = .ok (.invokevirtual 102, 3) := by decide +kernel
theorem dX1_arrive_20 : decode cX1_arrive 20 = .ok (.if_icmp .ge 19, 3) := by decide +kernel
theorem dX1_arrive_23 : decode cX1_arrive 23 = .ok (.iload 6, 2) := by decide +kernel
theorem dX1_arrive_25 : decode cX1_arrive 25 = .ok (.bipush 6, 2) := by decide +kernel
theorem dX1_arrive_27 : decode cX1_arrive 27 = .ok (.if_icmp .ge 12, 3) := by decide +kernel
theorem dX1_arrive_30 : decode cX1_arrive 30 = .ok (.iload 5, 2) := by decide +kernel
theorem dX1_arrive_32 : decode cX1_arrive 32 = .ok (.aload_n 0, 1) := by decide +kernel
theorem dX1_arrive_33 : decode cX1_arrive 33 = .ok (.getfield 23, 3) := by decide +kernel
theorem dX1_arrive_36 : decode cX1_arrive 36 = .ok (.if_icmp .lt 4, 3) := by decide +kernel
theorem dX1_arrive_39 : decode cX1_arrive 39 = .ok (.return_, 1) := by decide +kernel
theorem dX1_arrive_40 : decode cX1_arrive 40 = .ok (.aload_n 1, 1) := by decide +kernel
theorem dX1_arrive_41 : decode cX1_arrive 41 = .ok (.iload_n 2, 1) := by decide +kernel
theorem dX1_arrive_42 : decode cX1_arrive 42 = .ok (.aload_n 0, 1) := by decide +kernel
theorem dX1_arrive_43 : decode cX1_arrive 43 = .ok (.getfield 18, 3) := by decide +kernel
theorem dX1_arrive_46 : decode cX1_arrive 46 = .ok (.iload 4, 2) := by decide +kernel
theorem dX1_arrive_48 : decode cX1_arrive 48 = .ok (.invokevirtual 105, 3) := by decide +kernel
theorem dX1_arrive_51 : decode cX1_arrive 51 = .ok (.istore 7, 2) := by decide +kernel
theorem dX1_arrive_53 : decode cX1_arrive 53 = .ok (.iload 7, 2) := by decide +kernel
theorem dX1_arrive_55 : decode cX1_arrive 55 = .ok (.iload_n 2, 1) := by decide +kernel
theorem dX1_arrive_56 : decode cX1_arrive 56 = .ok (.if_icmp .eq 14, 3) := by decide +kernel
theorem dX1_arrive_59 : decode cX1_arrive 59 = .ok (.aload_n 0, 1) := by decide +kernel
theorem dX1_arrive_60 : decode cX1_arrive 60 = .ok (.iload_n 2, 1) := by decide +kernel
theorem dX1_arrive_61 : decode cX1_arrive 61 = .ok (.iload_n 2, 1) := by decide +kernel
theorem dX1_arrive_62 : decode cX1_arrive 62 = .ok (.iload 7, 2) := by decide +kernel
theorem dX1_arrive_64 : decode cX1_arrive 64 = .ok (.invokevirtual 109, 3) := by decide +kernel
theorem dX1_arrive_67 : decode cX1_arrive 67 = .ok (.ifCond .ne 10, 3) := by decide +kernel
theorem dX1_arrive_70 : decode cX1_arrive 70 = .ok (.aload_n 0, 1) := by decide +kernel
theorem dX1_arrive_71 : decode cX1_arrive 71 = .ok (.iload 5, 2) := by decide +kernel
theorem dX1_arrive_73 : decode cX1_arrive 73 = .ok (.putfield 23, 3) := by decide +kernel
theorem dX1_arrive_76 : decode cX1_arrive 76 = .ok (.return_, 1) := by decide +kernel
theorem dX1_arrive_77 : decode cX1_arrive 77 = .ok (.iconst 0, 1) := by decide +kernel
theorem dX1_arrive_78 : decode cX1_arrive 78 = .ok (.istore 8, 2) := by decide +kernel
theorem dX1_arrive_80 : decode cX1_arrive 80 = .ok (.iload 8, 2) := by decide +kernel
theorem dX1_arrive_82 : decode cX1_arrive 82 = .ok (.aload_n 1, 1) := by decide +kernel
theorem dX1_arrive_83 : decode cX1_arrive 83 = .ok (.invokevirtual 50, 3) := by decide +kernel
theorem dX1_arrive_86 : decode cX1_arrive 86 = .ok (.if_icmp .ge 46, 3) := by decide +kernel
theorem dX1_arrive_89 : decode cX1_arrive 89 = .ok (.aload_n 0, 1) := by decide +kernel
theorem dX1_arrive_90 : decode cX1_arrive 90 = .ok (.iload_n 2, 1) := by decide +kernel
theorem dX1_arrive_91 : decode cX1_arrive 91 = .ok (.iload 8, 2) := by decide +kernel
theorem dX1_arrive_93 : decode cX1_arrive 93 = .ok (.iload 7, 2) := by decide +kernel
theorem dX1_arrive_95 : decode cX1_arrive 95 = .ok (.invokevirtual 109, 3) := by decide +kernel
theorem dX1_arrive_98 : decode cX1_arrive 98 = .ok (.istore 9, 2) := by decide +kernel
theorem dX1_arrive_100 : decode cX1_arrive 100 = .ok (.iload 9, 2) := by decide +kernel
theorem dX1_arrive_102 : decode cX1_arrive 102 = .ok (.ldc 22, 2) := by decide +kernel
theorem dX1_arrive_104 : decode cX1_arrive 104 = .ok (.if_icmp .eq 22, 3) := by decide +kernel
theorem dX1_arrive_107 : decode cX1_arrive 107 = .ok (.aload_n 0, 1) := by decide +kernel
theorem dX1_arrive_108 : decode cX1_arrive 108 = .ok (.aload_n 1, 1) := by decide +kernel
theorem dX1_arrive_109 : decode cX1_arrive 109 = .ok (.iload 8, 2) := by decide +kernel
theorem dX1_arrive_111 : decode cX1_arrive 111 = .ok (.iload_n 3, 1) := by decide +kernel
theorem dX1_arrive_112 : decode cX1_arrive 112 = .ok (.iconst 1, 1) := by decide +kernel
theorem dX1_arrive_113 : decode cX1_arrive 113 = .ok (.iload_n 2, 1) := by decide +kernel
theorem dX1_arrive_114 : decode cX1_arrive 114 = .ok (.ishl, 1) := by decide +kernel
theorem dX1_arrive_115 : decode cX1_arrive 115 = .ok (.ior, 1) := by decide +kernel
theorem dX1_arrive_116 : decode cX1_arrive 116 = .ok (.iload 7, 2) := by decide +kernel
theorem dX1_arrive_118 : decode cX1_arrive 118 = .ok (.iload 5, 2) := by decide +kernel
theorem dX1_arrive_120 : decode cX1_arrive 120 = .ok (.iload 9, 2) := by decide +kernel
theorem dX1_arrive_122 : decode cX1_arrive 122 = .ok (.iadd, 1) := by decide +kernel
theorem dX1_arrive_123 : decode cX1_arrive 123 = .ok (.invokevirtual 42, 3) := by decide +kernel
theorem dX1_arrive_126 : decode cX1_arrive 126 = .ok (.iinc 8 1, 3) := by decide +kernel
theorem dX1_arrive_129 : decode cX1_arrive 129 = .ok (.goto (-49), 3) := by decide +kernel
theorem dX1_arrive_132 : decode cX1_arrive 132 = .ok (.return_, 1) := by decide +kernel
theorem dX2_init_0 : decode cX2_init 0 = .ok (.aload_n 0, 1) := by decide +kernel
theorem dX2_init_1 : decode cX2_init 1 = .ok (.invokespecial 3, 3) := by decide +kernel
theorem dX2_init_4 : decode cX2_init 4 = .ok (.aload_n 0, 1) := by decide +kernel
theorem dX2_init_5 : decode cX2_init 5 = .ok (.iconst 5, 1) := by decide +kernel
theorem dX2_init_6 : decode cX2_init 6 = .ok (.anewarray 9, 3) := by decide +kernel
theorem dX2_init_9 : decode cX2_init 9 = .ok (.putfield 11, 3) := by decide +kernel
theorem dX2_init_12 : decode cX2_init 12 = .ok (.aload_n 0, 1) := by decide +kernel
theorem dX2_init_13 : decode cX2_init 13 = .ok (.iconst 0, 1) := by decide +kernel
theorem dX2_init_14 : decode cX2_init 14 = .ok (.putfield 17, 3) := by decide +kernel
theorem dX2_init_17 : decode cX2_init 17 = .ok (.aload_n 0, 1) := by decide +kernel
theorem dX2_init_18 : decode cX2_init 18 = .ok (.iconst 0, 1) := by decide +kernel
theorem dX2_init_19 : decode cX2_init 19 = .ok (.putfield 21, 3) := by decide +kernel
theorem dX2_init_22 : decode cX2_init 22 = .ok (.iconst 0, 1) := by decide +kernel
theorem dX2_init_23 : decode cX2_init 23 = .ok (.istore_n 1, 1) := by decide +kernel
theorem dX2_init_24 : decode cX2_init 24 = .ok (.iload_n 1, 1) := by decide +kernel
theorem dX2_init_25 : decode cX2_init 25 = .ok (.iconst 5, 1) := by decide +kernel
theorem dX2_init_26 : decode cX2_init 26 = .ok (.if_icmp .ge 22, 3) := by decide +kernel
theorem dX2_init_29 : decode cX2_init 29 = .ok (.aload_n 0, 1) := by decide +kernel
theorem dX2_init_30 : decode cX2_init 30 = .ok (.getfield 11, 3) := by decide +kernel
theorem dX2_init_33 : decode cX2_init 33 = .ok (.iload_n 1, 1) := by decide +kernel
theorem dX2_init_34 : decode cX2_init 34 = .ok (.new 9, 3) := by decide +kernel
theorem dX2_init_37 : decode cX2_init 37 = .ok (.dup, 1) := by decide +kernel
theorem dX2_init_38 : decode cX2_init 38 = .ok (.invokespecial 24, 3) := by decide +kernel
theorem dX2_init_41 : decode cX2_init 41 = .ok (.aastore, 1) := by decide +kernel
theorem dX2_init_42 : decode cX2_init 42 = .ok (.iinc 1 1, 3) := by decide +kernel
theorem dX2_init_45 : decode cX2_init 45 = .ok (.goto (-21), 3) := by decide +kernel
theorem dX2_init_48 : decode cX2_init 48 = .ok (.return_, 1) := by decide +kernel
theorem dX2_size_0 : decode cX2_size 0 = .ok (.aload_n 0, 1) := by decide +kernel
theorem dX2_size_1 : decode cX2_size 1 = .ok (.getfield 21, 3) := by decide +kernel
theorem dX2_size_4 : decode cX2_size 4 = .ok (.ireturn, 1) := by decide +kernel
theorem dX2_stateAt_0 : decode cX2_stateAt 0 = .ok (.aload_n 0, 1) := by decide +kernel
theorem dX2_stateAt_1 : decode cX2_stateAt 1 = .ok (.getfield 11, 3) := by decide +kernel
theorem dX2_stateAt_4 : decode cX2_stateAt 4 = .ok (.aload_n 0, 1) := by decide +kernel
theorem dX2_stateAt_5 : decode cX2_stateAt 5 = .ok (.getfield 17, 3) := by decide +kernel
theorem dX2_stateAt_8 : decode cX2_stateAt 8 = .ok (.iload_n 1, 1) := by decide +kernel
theorem dX2_stateAt_9 : decode cX2_stateAt 9 = .ok (.iadd, 1) := by decide +kernel
theorem dX2_stateAt_10 : decode cX2_stateAt 10 = .ok (.iconst 5, 1) := by decide +kernel
theorem dX2_stateAt_11 : decode cX2_stateAt 11 = .ok (.invokestatic 25, 3) := by decide +kernel
theorem dX2_stateAt_14 : decode cX2_stateAt 14 = .ok (.aaload, 1) := by decide +kernel
theorem dX2_stateAt_15 : decode cX2_stateAt 15 = .ok (.areturn, 1) := by decide +kernel
theorem dX2_push_0 : decode cX2_push 0 = .ok (.aload_n 0, 1) := by decide +kernel
theorem dX2_push_1 : decode cX2_push 1 = .ok (.getfield 21, 3) := by decide +kernel
theorem dX2_push_4 : decode cX2_push 4 = .ok (.iconst 5, 1) := by decide +kernel
theorem dX2_push_5 : decode cX2_push 5 = .ok (.if_icmp .ne 25, 3) := by decide +kernel
theorem dX2_push_8 : decode cX2_push 8 = .ok (.aload_n 0, 1) := by decide +kernel
theorem dX2_push_9 : decode cX2_push 9 = .ok (.aload_n 0, 1) := by decide +kernel
theorem dX2_push_10 : decode cX2_push 10 = .ok (.getfield 17, 3) := by decide +kernel
theorem dX2_push_13 : decode cX2_push 13 = .ok (.iconst 1, 1) := by decide +kernel
theorem dX2_push_14 : decode cX2_push 14 = .ok (.iadd, 1) := by decide +kernel
theorem dX2_push_15 : decode cX2_push 15 = .ok (.iconst 5, 1) := by decide +kernel
theorem dX2_push_16 : decode cX2_push 16 = .ok (.irem, 1) := by decide +kernel
theorem dX2_push_17 : decode cX2_push 17 = .ok (.putfield 17, 3) := by decide +kernel
theorem dX2_push_20 : decode cX2_push 20 = .ok (.aload_n 0, 1) := by decide +kernel
theorem dX2_push_21 : decode cX2_push 21 = .ok (.dup, 1) := by decide +kernel
theorem dX2_push_22 : decode cX2_push 22 = .ok (.getfield 21, 3) := by decide +kernel
theorem dX2_push_25 : decode cX2_push 25 = .ok (.iconst 1, 1) := by decide +kernel
theorem dX2_push_26 : decode cX2_push 26 = .ok (.isub, 1) := by decide +kernel
theorem dX2_push_27 : decode cX2_push 27 = .ok (.putfield 21, 3) := by decide +kernel
theorem dX2_push_30 : decode cX2_push 30 = .ok (.aload_n 0, 1) := by decide +kernel
theorem dX2_push_31 : decode cX2_push 31 = .ok (.aload_n 0, 1) := by decide +kernel
theorem dX2_push_32 : decode cX2_push 32 = .ok (.getfield 21, 3) := by decide +kernel
theorem dX2_push_35 : decode cX2_push 35 = .ok (.invokevirtual 31, 3) := by decide +kernel
theorem dX2_push_38 : decode cX2_push 38 = .ok (.astore_n 2, 1) := by decide +kernel
theorem dX2_push_39 : decode cX2_push 39 = .ok (.aload_n 2, 1) := by decide +kernel
theorem dX2_push_40 : decode cX2_push 40 = .ok (.ifnull 18, 3) := by decide +kernel
theorem dX2_push_43 : decode cX2_push 43 = .ok (.aload_n 2, 1) := by decide +kernel
theorem dX2_push_44 : decode cX2_push 44 = .ok (.aload_n 1, 1) := by decide +kernel
theorem dX2_push_45 : decode cX2_push 45 = .ok (.invokevirtual 35, 3) := by decide +kernel
theorem dX2_push_48 : decode cX2_push 48 = .ok (.aload_n 0, 1) := by decide +kernel
theorem dX2_push_49 : decode cX2_push 49 = .ok (.dup, 1) := by decide +kernel
theorem dX2_push_50 : decode cX2_push 50 = .ok (.getfield 21, 3) := by decide +kernel
theorem dX2_push_53 : decode cX2_push 53 = .ok (.iconst 1, 1) := by decide +kernel
theorem dX2_push_54 : decode cX2_push 54 = .ok (.iadd, 1) := by decide +kernel
theorem dX2_push_55 : decode cX2_push 55 = .ok (.putfield 21, 3) := by decide +kernel
theorem dX2_push_58 : decode cX2_push 58 = .ok (.return_, 1) := by decide +kernel
theorem dX2_pop_0 : decode cX2_pop 0 = .ok (.aload_n 0, 1) := by decide +kernel
theorem dX2_pop_1 : decode cX2_pop 1 = .ok (.getfield 21, 3) := by decide +kernel
theorem dX2_pop_4 : decode cX2_pop 4 = .ok (.ifCond .ne 5, 3) := by decide +kernel
theorem dX2_pop_7 : decode cX2_pop 7 = .ok (.iconst 0, 1) := by decide +kernel
theorem dX2_pop_8 : decode cX2_pop 8 = .ok (.ireturn, 1) := by decide +kernel
theorem dX2_pop_9 : decode cX2_pop 9 = .ok (.aload_n 0, 1) := by decide +kernel
theorem dX2_pop_10 : decode cX2_pop 10 = .ok (.dup, 1) := by decide +kernel
theorem dX2_pop_11 : decode cX2_pop 11 = .ok (.getfield 21, 3) := by decide +kernel
theorem dX2_pop_14 : decode cX2_pop 14 = .ok (.iconst 1, 1) := by decide +kernel
theorem dX2_pop_15 : decode cX2_pop 15 = .ok (.isub, 1) := by decide +kernel
theorem dX2_pop_16 : decode cX2_pop 16 = .ok (.putfield 21, 3) := by decide +kernel
theorem dX2_pop_19 : decode cX2_pop 19 = .ok (.aload_n 0, 1) := by decide +kernel
theorem dX2_pop_20 : decode cX2_pop 20 = .ok (.aload_n 0, 1) := by decide +kernel
theorem dX2_pop_21 : decode cX2_pop 21 = .ok (.getfield 21, 3) := by decide +kernel
theorem dX2_pop_24 : decode cX2_pop 24 = .ok (.invokevirtual 31, 3) := by decide +kernel
theorem dX2_pop_27 : decode cX2_pop 27 = .ok (.astore_n 2, 1) := by decide +kernel
theorem dX2_pop_28 : decode cX2_pop 28 = .ok (.aload_n 2, 1) := by decide +kernel
theorem dX2_pop_29 : decode cX2_pop 29 = .ok (.ifnull 8, 3) := by decide +kernel
theorem dX2_pop_32 : decode cX2_pop 32 = .ok (.aload_n 1, 1) := by decide +kernel
theorem dX2_pop_33 : decode cX2_pop 33 = .ok (.aload_n 2, 1) := by decide +kernel
theorem dX2_pop_34 : decode cX2_pop 34 = .ok (.invokevirtual 35, 3) := by decide +kernel
theorem dX2_pop_37 : decode cX2_pop 37 = .ok (.iconst 1, 1) := by decide +kernel
theorem dX2_pop_38 : decode cX2_pop 38 = .ok (.ireturn, 1) := by decide +kernel
theorem dX3_init_0 : decode cX3_init 0 = .ok (.aload_n 0, 1) := by decide +kernel
theorem dX3_init_1 : decode cX3_init 1 = .ok (.invokespecial 3, 3) := by decide +kernel
theorem dX3_init_4 : decode cX3_init 4 = .ok (.aload_n 0, 1) := by decide +kernel
theorem dX3_init_5 : decode cX3_init 5 = .ok (.new 9, 3) := by decide +kernel
theorem dX3_init_8 : decode cX3_init 8 = .ok (.dup, 1) := by decide +kernel
theorem dX3_init_9 : decode cX3_init 9 = .ok (.invokespecial 11, 3) := by decide +kernel
theorem dX3_init_12 : decode cX3_init 12 = .ok (.putfield 12, 3) := by decide +kernel
theorem dX3_init_15 : decode cX3_init 15 = .ok (.aload_n 0, 1) := by decide +kernel
theorem dX3_init_16 : decode cX3_init 16 = .ok (.bipush 6, 2) := by decide +kernel
theorem dX3_init_18 : decode cX3_init 18 = .ok (.newarray .int, 2) := by decide +kernel
theorem dX3_init_20 : decode cX3_init 20 = .ok (.putfield 18, 3) := by decide +kernel
theorem dX3_init_23 : decode cX3_init 23 = .ok (.aload_n 0, 1) := by decide +kernel
theorem dX3_init_24 : decode cX3_init 24 = .ok (.iconst 0, 1) := by decide +kernel
theorem dX3_init_25 : decode cX3_init 25 = .ok (.putfield 22, 3) := by decide +kernel
theorem dX3_init_28 : decode cX3_init 28 = .ok (.aload_n 0, 1) := by decide +kernel
theorem dX3_init_29 : decode cX3_init 29 = .ok (.iconst 0, 1) := by decide +kernel
theorem dX3_init_30 : decode cX3_init 30 = .ok (.putfield 26, 3) := by decide +kernel
theorem dX3_init_33 : decode cX3_init 33 = .ok (.aload_n 0, 1) := by decide +kernel
theorem dX3_init_34 : decode cX3_init 34 = .ok (.iconst 0, 1) := by decide +kernel
theorem dX3_init_35 : decode cX3_init 35 = .ok (.putfield 29, 3) := by decide +kernel
theorem dX3_init_38 : decode cX3_init 38 = .ok (.aload_n 0, 1) := by decide +kernel
theorem dX3_init_39 : decode cX3_init 39 = .ok (.iconst 0, 1) := by decide +kernel
theorem dX3_init_40 : decode cX3_init 40 = .ok (.putfield 32, 3) := by decide +kernel
theorem dX3_init_43 : decode cX3_init 43 = .ok (.return_, 1) := by decide +kernel
theorem dX3_trace_0 : decode cX3_trace 0 = .ok (.aload_n 0, 1) := by decide +kernel
theorem dX3_trace_1 : decode cX3_trace 1 = .ok (.getfield 12, 3) := by decide +kernel
theorem dX3_trace_4 : decode cX3_trace 4 = .ok (.areturn, 1) := by decide +kernel
theorem dX3_number_0 : decode cX3_number 0 = .ok (.aload_n 0, 1) := by decide +kernel
theorem dX3_number_1 : decode cX3_number 1 = .ok (.getfield 26, 3) := by decide +kernel
theorem dX3_number_4 : decode cX3_number 4 = .ok (.ireturn, 1) := by decide +kernel
theorem dX3_length_0 : decode cX3_length 0 = .ok (.aload_n 0, 1) := by decide +kernel
theorem dX3_length_1 : decode cX3_length 1 = .ok (.getfield 22, 3) := by decide +kernel
theorem dX3_length_4 : decode cX3_length 4 = .ok (.ireturn, 1) := by decide +kernel
theorem dX3_step_0 : decode cX3_step 0 = .ok (.iload_n 1, 1) := by decide +kernel
theorem dX3_step_1 : decode cX3_step 1 = .ok (.ifCond .lt 26, 3) := by decide +kernel
theorem dX3_step_4 : decode cX3_step 4 = .ok (.iload_n 1, 1) := by decide +kernel
theorem dX3_step_5 : decode cX3_step 5 = .ok (.aload_n 0, 1) := by decide +kernel
theorem dX3_step_6 : decode cX3_step 6 = .ok (.getfield 22, 3) := by decide +kernel
theorem dX3_step_9 : decode cX3_step 9 = .ok (.if_icmp .ge 18, 3) := by decide +kernel
theorem dX3_step_12 : decode cX3_step 12 = .ok (.iload_n 1, 1) := by decide +kernel
theorem dX3_step_13 : decode cX3_step 13 = .ok (.bipush 6, 2) := by decide +kernel
theorem dX3_step_15 : decode cX3_step 15 = .ok (.if_icmp .ge 12, 3) := by decide +kernel
theorem dX3_step_18 : decode cX3_step 18 = .ok (.aload_n 0, 1) := by decide +kernel
theorem dX3_step_19 : decode cX3_step 19 = .ok (.getfield 18, 3) := by decide +kernel
theorem dX3_step_22 : decode cX3_step 22 = .ok (.iload_n 1, 1) := by decide +kernel
theorem dX3_step_23 : decode cX3_step 23 = .ok (.iaload, 1) := by decide +kernel
theorem dX3_step_24 : decode cX3_step 24 = .ok (.goto 5, 3) := by decide +kernel
theorem dX3_step_27 : decode cX3_step 27 = .ok (.bipush (-9), 2) := by decide +kernel
theorem dX3_step_29 : decode cX3_step 29 = .ok (.ireturn, 1) := by decide +kernel
theorem dX3_start_0 : decode cX3_start 0 = .ok (.aload_n 0, 1) := by decide +kernel
theorem dX3_start_1 : decode cX3_start 1 = .ok (.iload_n 3, 1) := by decide +kernel
theorem dX3_start_2 : decode cX3_start 2 = .ok (.putfield 26, 3) := by decide +kernel
theorem dX3_start_5 : decode cX3_start 5 = .ok (.aload_n 0, 1) := by decide +kernel
theorem dX3_start_6 : decode cX3_start 6 = .ok (.iconst 0, 1) := by decide +kernel
theorem dX3_start_7 : decode cX3_start 7 = .ok (.putfield 22, 3) := by decide +kernel
theorem dX3_start_10 : decode cX3_start 10 = .ok (.aload_n 0, 1) := by decide +kernel
theorem dX3_start_11 : decode cX3_start 11 = .ok (.aload_n 1, 1) := by decide +kernel
theorem dX3_start_12 : decode cX3_start 12 = .ok (.invokevirtual 35, 3) := by decide +kernel
theorem dX3_start_15 : decode cX3_start 15 = .ok (.invokestatic 41, 3) := by decide +kernel
theorem dX3_start_18 : decode cX3_start 18 = .ok (.putfield 29, 3) := by decide +kernel
theorem dX3_start_21 : decode cX3_start 21 = .ok (.aload_n 0, 1) := by decide +kernel
theorem dX3_start_22 : decode cX3_start 22 = .ok (.aload_n 1, 1) := by decide +kernel
theorem dX3_start_23 : decode cX3_start 23 = .ok (.invokevirtual 45, 3) := by decide +kernel
theorem dX3_start_26 : decode cX3_start 26 = .ok (.iload_n 3, 1) := by decide +kernel
theorem dX3_start_27 : decode cX3_start 27 = .ok (.invokevirtual 49, 3) := by decide +kernel
theorem dX3_start_30 : decode cX3_start 30 = .ok (.ifCond .eq 7, 3) := by decide +kernel
theorem dX3_start_33 : decode cX3_start 33 = .ok (.iconst 5, 1) := by decide +kernel
theorem dX3_start_34 : decode cX3_start 34 = .ok (.goto 4, 3) := by decide +kernel
theorem dX3_start_37 : decode cX3_start 37 = .ok (.iconst 0, 1) := by decide +kernel
theorem dX3_start_38 : decode cX3_start 38 = .ok (.putfield 32, 3) := by decide +kernel
theorem dX3_start_41 : decode cX3_start 41 = .ok (.aload_n 0, 1) := by decide +kernel
theorem dX3_start_42 : decode cX3_start 42 = .ok (.getfield 12, 3) := by decide +kernel
theorem dX3_start_45 : decode cX3_start 45 = .ok (.invokevirtual 55, 3) := by decide +kernel
theorem dX3_start_48 : decode cX3_start 48 = .ok (.aload_n 0, 1) := by decide +kernel
theorem dX3_start_49 : decode cX3_start 49 = .ok (.aload_n 1, 1) := by decide +kernel
theorem dX3_start_50 : decode cX3_start 50 = .ok (.iload_n 2, 1) := by decide +kernel
theorem dX3_start_51 : decode cX3_start 51 = .ok (.iconst 0, 1) := by decide +kernel
theorem dX3_start_52 : decode cX3_start 52 = .ok (.bipush (-9), 2) := by decide +kernel
theorem dX3_start_54 : decode cX3_start 54 = .ok (.invokevirtual 58, 3) := by decide +kernel
theorem dX3_start_57 : decode cX3_start 57 = .ok (.ireturn, 1) := by decide +kernel
theorem dX3_arrive_0 : decode cX3_arrive 0 = .ok (.iload_n 3, 1) := by decide +kernel
theorem dX3_arrive_1 : decode cX3_arrive 1 = .ok (.invokestatic 62, 3) := by decide +kernel
theorem dX3_arrive_4 : decode cX3_arrive 4 = .ok (.istore 5, 2) := by decide +kernel
theorem dX3_arrive_6 : decode cX3_arrive 6 = .ok (.iload_n 3, 1) := by decide +kernel
theorem dX3_arrive_7 : decode cX3_arrive 7 = .ok (.iload_n 2, 1) := by decide +kernel
theorem dX3_arrive_8 : decode cX3_arrive 8 = .ok (.ishr, 1) := by decide +kernel
theorem dX3_arrive_9 : decode cX3_arrive 9 = .ok (.iconst 1, 1) := by decide +kernel
theorem dX3_arrive_10 : decode cX3_arrive 10 = .ok (.iand, 1) := by decide +kernel
theorem dX3_arrive_11 : decode cX3_arrive 11 = .ok (.ifCond .eq 5, 3) := by decide +kernel
theorem dX3_arrive_14 : decode cX3_arrive 14 = .ok (.iconst 3, 1) := by decide +kernel
theorem dX3_arrive_15 : decode cX3_arrive 15 = .ok (.ireturn, 1) := by decide +kernel
theorem dX3_arrive_16 : decode cX3_arrive 16 = .ok (.iload 5, 2) := by decide +kernel
theorem dX3_arrive_18 : decode cX3_arrive 18 = .ok (.aload_n 1, 1) := by decide +kernel
theorem dX3_arrive_19 : decode cX3_arrive 19 = .ok (.invokevirtual 67, 3) := by decide +kernel
theorem dX3_arrive_22 : decode cX3_arrive 22 = .ok (.if_icmp .ge 10, 3) := by decide +kernel
theorem dX3_arrive_25 : decode cX3_arrive 25 = .ok (.iload 5, 2) := by decide +kernel
theorem dX3_arrive_27 : decode cX3_arrive 27 = .ok (.bipush 6, 2) := by decide +kernel
theorem dX3_arrive_29 : decode cX3_arrive 29 = .ok (.if_icmp .lt 5, 3) := by decide +kernel
theorem dX3_arrive_32 : decode cX3_arrive 32 = .ok (.iconst 4, 1) := by decide +kernel
theorem dX3_arrive_33 : decode cX3_arrive 33 = .ok (.ireturn, 1) := by decide +kernel
theorem dX3_arrive_34 : decode cX3_arrive 34 = .ok (.aload_n 1, 1) := by decide +kernel
theorem dX3_arrive_35 : decode cX3_arrive 35 = .ok (.iload_n 2, 1) := by decide +kernel
theorem dX3_arrive_36 : decode cX3_arrive 36 = .ok (.aload_n 0, 1) := by decide +kernel
theorem dX3_arrive_37 : decode cX3_arrive 37 = .ok (.getfield 26, 3) := by decide +kernel
theorem dX3_arrive_40 : decode cX3_arrive 40 = .ok (.iload 4, 2) := by decide +kernel
theorem dX3_arrive_42 : decode cX3_arrive 42 = .ok (.invokevirtual 70, 3) := by decide +kernel
theorem dX3_arrive_45 : decode cX3_arrive 45 = .ok (.istore 6, 2) := by decide +kernel
theorem dX3_arrive_47 : decode cX3_arrive 47 = .ok (.iload 6, 2) := by decide +kernel
theorem dX3_arrive_49 : decode cX3_arrive 49 = .ok (.iload_n 2, 1) := by decide +kernel
theorem dX3_arrive_50 : decode cX3_arrive 50 = .ok (.if_icmp .ne 14, 3) := by decide +kernel
theorem dX3_arrive_53 : decode cX3_arrive 53 = .ok (.aload_n 0, 1) := by decide +kernel
theorem dX3_arrive_54 : decode cX3_arrive 54 = .ok (.iload 5, 2) := by decide +kernel
theorem dX3_arrive_56 : decode cX3_arrive 56 = .ok (.putfield 22, 3) := by decide +kernel
theorem dX3_arrive_59 : decode cX3_arrive 59 = .ok (.aload_n 0, 1) := by decide +kernel
theorem dX3_arrive_60 : decode cX3_arrive 60 = .ok (.getfield 32, 3) := by decide +kernel
theorem dX3_arrive_63 : decode cX3_arrive 63 = .ok (.ireturn, 1) := by decide +kernel
theorem dX3_arrive_64 : decode cX3_arrive 64 = .ok (.aload_n 0, 1) := by decide +kernel
theorem dX3_arrive_65 : decode cX3_arrive 65 = .ok (.aload_n 1, 1) := by decide +kernel
theorem dX3_arrive_66 : decode cX3_arrive 66 = .ok (.iload_n 2, 1) := by decide +kernel
theorem dX3_arrive_67 : decode cX3_arrive 67 = .ok (.iload_n 3, 1) := by decide +kernel
theorem dX3_arrive_68 : decode cX3_arrive 68 = .ok (.iload 6, 2) := by decide +kernel
theorem dX3_arrive_70 : decode cX3_arrive 70 = .ok (.invokevirtual 74, 3) := by decide +kernel
theorem dX3_arrive_73 : decode cX3_arrive 73 = .ok (.ireturn, 1) := by decide +kernel
theorem dX3_tryRoutes_0 : decode cX3_tryRoutes 0 = .ok (.aload_n 1, 1) := by decide +kernel
theorem dX3_tryRoutes_1 : decode cX3_tryRoutes 1 = .ok (.invokevirtual 77, 3) := by decide +kernel
theorem dX3_tryRoutes_4 : decode cX3_tryRoutes 4 = .ok (.astore 5, 2) := by decide +kernel
theorem dX3_tryRoutes_6 : decode cX3_tryRoutes 6 = .ok (.aload 5, 2) := by decide +kernel
theorem dX3_tryRoutes_8 : decode cX3_tryRoutes 8 = .ok (.iload_n 2, 1) := by decide +kernel
theorem dX3_tryRoutes_9 : decode cX3_tryRoutes 9 = .ok (.aload_n 0, 1) := by decide +kernel
theorem dX3_tryRoutes_10 : decode cX3_tryRoutes 10 = .ok (.getfield 26, 3) := by decide +kernel
theorem dX3_tryRoutes_13 : decode cX3_tryRoutes 13 = .ok (.iload 4, 2) := by decide +kernel
theorem dX3_tryRoutes_15 : decode cX3_tryRoutes 15 = .ok (.invokestatic 81, 3) := by decide +kernel
theorem dX3_tryRoutes_18 : decode cX3_tryRoutes 18 = .ok (.invokevirtual 85, 3) := by decide +kernel
theorem dX3_tryRoutes_21 : decode cX3_tryRoutes 21 = .ok (.istore 6, 2) := by decide +kernel
theorem dX3_tryRoutes_23 : decode cX3_tryRoutes 23 = .ok (.aload 5, 2) := by decide +kernel
theorem dX3_tryRoutes_25 : decode cX3_tryRoutes 25 = .ok (.bipush (-9), 2) := by decide +kernel
theorem dX3_tryRoutes_27 : decode cX3_tryRoutes 27 = .ok (.iload_n 2, 1) := by decide +kernel
theorem dX3_tryRoutes_28 : decode cX3_tryRoutes 28 = .ok (.iload 6, 2) := by decide +kernel
theorem dX3_tryRoutes_30 : decode cX3_tryRoutes 30 = .ok (.aload_n 0, 1) := by decide +kernel
theorem dX3_tryRoutes_31 : decode cX3_tryRoutes 31 = .ok (.getfield 29, 3) := by decide +kernel
theorem dX3_tryRoutes_34 : decode cX3_tryRoutes 34 = .ok (.invokevirtual 91, 3) := by decide +kernel
theorem dX3_tryRoutes_37 : decode cX3_tryRoutes 37 = .ok (.istore 7, 2) := by decide +kernel
theorem dX3_tryRoutes_39 : decode cX3_tryRoutes 39 = .ok (.iconst 1, 1) := by decide +kernel
theorem dX3_tryRoutes_40 : decode cX3_tryRoutes 40 = .ok (.istore 8, 2) := by decide +kernel
theorem dX3_tryRoutes_42 : decode cX3_tryRoutes 42 = .ok (.iconst 0, 1) := by decide +kernel
theorem dX3_tryRoutes_43 : decode cX3_tryRoutes 43 = .ok (.istore 9, 2) := by decide +kernel
theorem dX3_tryRoutes_45 : decode cX3_tryRoutes 45 = .ok (.iload 9, 2) := by decide +kernel
theorem dX3_tryRoutes_47 : decode cX3_tryRoutes 47 = .ok (.bipush 40, 2) := by decide +kernel
theorem dX3_tryRoutes_49 : decode cX3_tryRoutes 49 = .ok (.if_icmp .ge 57, 3) := by decide +kernel
theorem dX3_tryRoutes_52 : decode cX3_tryRoutes 52 = .ok (.iload 7, 2) := by decide +kernel
theorem dX3_tryRoutes_54 : decode cX3_tryRoutes 54 = .ok (.bipush (-9), 2) := by decide +kernel
theorem dX3_tryRoutes_56 : decode cX3_tryRoutes 56 = .ok (.if_icmp .eq 50, 3) := by decide +kernel
theorem dX3_tryRoutes_59 : decode cX3_tryRoutes 59 = .ok (.aload_n 0, 1) := by decide +kernel
theorem dX3_tryRoutes_60 : decode cX3_tryRoutes 60 = .ok (.aload_n 1, 1) := by decide +kernel
theorem dX3_tryRoutes_61 : decode cX3_tryRoutes 61 = .ok (.iload 7, 2) := by decide +kernel
theorem dX3_tryRoutes_63 : decode cX3_tryRoutes 63 = .ok (.iload_n 3, 1) := by decide +kernel
theorem dX3_tryRoutes_64 : decode cX3_tryRoutes 64 = .ok (.iload 4, 2) := by decide +kernel
theorem dX3_tryRoutes_66 : decode cX3_tryRoutes 66 = .ok (.invokevirtual 95, 3) := by decide +kernel
theorem dX3_tryRoutes_69 : decode cX3_tryRoutes 69 = .ok (.istore 8, 2) := by decide +kernel
theorem dX3_tryRoutes_71 : decode cX3_tryRoutes 71 = .ok (.aload_n 1, 1) := by decide +kernel
theorem dX3_tryRoutes_72 : decode cX3_tryRoutes 72 = .ok (.iload_n 2, 1) := by decide +kernel
theorem dX3_tryRoutes_73 : decode cX3_tryRoutes 73 = .ok (.iload 8, 2) := by decide +kernel
theorem dX3_tryRoutes_75 : decode cX3_tryRoutes 75 = .ok (.invokevirtual 98, 3) := by decide +kernel
theorem dX3_tryRoutes_78 : decode cX3_tryRoutes 78 = .ok (.ifCond .ne 6, 3) := by decide +kernel
theorem dX3_tryRoutes_81 : decode cX3_tryRoutes 81 = .ok (.iload 8, 2) := by decide +kernel
theorem dX3_tryRoutes_83 : decode cX3_tryRoutes 83 = .ok (.ireturn, 1) := by decide +kernel
theorem dX3_tryRoutes_84 : decode cX3_tryRoutes 84 = .ok (.aload 5, 2) := by decide +kernel
theorem dX3_tryRoutes_86 : decode cX3_tryRoutes 86 = .ok (.iload 7, 2) := by decide +kernel
theorem dX3_tryRoutes_88 : decode cX3_tryRoutes 88 = .ok (.iload_n 2, 1) := by decide +kernel
theorem dX3_tryRoutes_89 : decode cX3_tryRoutes 89 = .ok (.iload 6, 2) := by decide +kernel
theorem dX3_tryRoutes_91 : decode cX3_tryRoutes 91 = .ok (.aload_n 0, 1) := by decide +kernel
theorem dX3_tryRoutes_92 : decode cX3_tryRoutes 92 = .ok (.getfield 29, 3) := by decide +kernel
theorem dX3_tryRoutes_95 : decode cX3_tryRoutes 95 = .ok (.invokevirtual 91, 3) := by decide +kernel
theorem dX3_tryRoutes_98 : decode cX3_tryRoutes 98 = .ok (.istore 7, 2) := by decide +kernel
theorem dX3_tryRoutes_100 : decode cX3_tryRoutes 100 = .ok (.iinc 9 1, 3) := by decide +kernel
theorem dX3_tryRoutes_103 : decode cX3_tryRoutes 103 = .ok (.goto (-58), 3) := by decide +kernel
theorem dX3_tryRoutes_106 : decode cX3_tryRoutes 106 = .ok (.iload 8, 2) := by decide +kernel
theorem dX3_tryRoutes_108 : decode cX3_tryRoutes 108 = .ok (.ireturn, 1) := by decide +kernel
theorem dX3_tryRoute_0 : decode cX3_tryRoute 0 = .ok (.iload_n 3, 1) := by decide +kernel
theorem dX3_tryRoute_1 : decode cX3_tryRoute 1 = .ok (.invokestatic 62, 3) := by decide +kernel
theorem dX3_tryRoute_4 : decode cX3_tryRoute 4 = .ok (.istore 5, 2) := by decide +kernel
theorem dX3_tryRoute_6 : decode cX3_tryRoute 6 = .ok (.iload 5, 2) := by decide +kernel
theorem dX3_tryRoute_8 : decode cX3_tryRoute 8 = .ok (.bipush 6, 2) := by decide +kernel
theorem dX3_tryRoute_10 : decode cX3_tryRoute 10 = .ok (.if_icmp .lt 5, 3) := by decide +kernel
theorem dX3_tryRoute_13 : decode cX3_tryRoute 13 = .ok (.iconst 4, 1) := by decide +kernel
theorem dX3_tryRoute_14 : decode cX3_tryRoute 14 = .ok (.ireturn, 1) := by decide +kernel
theorem dX3_tryRoute_15 : decode cX3_tryRoute 15 = .ok (.aload_n 0, 1) := by decide +kernel
theorem dX3_tryRoute_16 : decode cX3_tryRoute 16 = .ok (.getfield 12, 3) := by decide +kernel
theorem dX3_tryRoute_19 : decode cX3_tryRoute 19 = .ok (.iload_n 2, 1) := by decide +kernel
theorem dX3_tryRoute_20 : decode cX3_tryRoute 20 = .ok (.invokevirtual 102, 3) := by decide +kernel
theorem dX3_tryRoute_23 : decode cX3_tryRoute 23 = .ok (.istore 6, 2) := by decide +kernel
theorem dX3_tryRoute_25 : decode cX3_tryRoute 25 = .ok (.iload 6, 2) := by decide +kernel
theorem dX3_tryRoute_27 : decode cX3_tryRoute 27 = .ok (.bipush (-9), 2) := by decide +kernel
theorem dX3_tryRoute_29 : decode cX3_tryRoute 29 = .ok (.if_icmp .ne 6, 3) := by decide +kernel
theorem dX3_tryRoute_32 : decode cX3_tryRoute 32 = .ok (.bipush 6, 2) := by decide +kernel
theorem dX3_tryRoute_34 : decode cX3_tryRoute 34 = .ok (.ireturn, 1) := by decide +kernel
theorem dX3_tryRoute_35 : decode cX3_tryRoute 35 = .ok (.aload_n 1, 1) := by decide +kernel
theorem dX3_tryRoute_36 : decode cX3_tryRoute 36 = .ok (.invokevirtual 77, 3) := by decide +kernel
theorem dX3_tryRoute_39 : decode cX3_tryRoute 39 = .ok (.astore 7, 2) := by decide +kernel
theorem dX3_tryRoute_41 : decode cX3_tryRoute 41 = .ok (.iconst 2, 1) := by decide +kernel
theorem dX3_tryRoute_42 : decode cX3_tryRoute 42 = .ok (.istore 8, 2) := by decide +kernel
theorem dX3_tryRoute_44 : decode cX3_tryRoute 44 = .ok (.aload_n 0, 1) := by decide +kernel
theorem dX3_tryRoute_45 : decode cX3_tryRoute 45 = .ok (.getfield 18, 3) := by decide +kernel
theorem dX3_tryRoute_48 : decode cX3_tryRoute 48 = .ok (.iload 5, 2) := by decide +kernel
theorem dX3_tryRoute_50 : decode cX3_tryRoute 50 = .ok (.iload_n 2, 1) := by decide +kernel
theorem dX3_tryRoute_51 : decode cX3_tryRoute 51 = .ok (.iastore, 1) := by decide +kernel
theorem dX3_tryRoute_52 : decode cX3_tryRoute 52 = .ok (.aload 7, 2) := by decide +kernel
theorem dX3_tryRoute_54 : decode cX3_tryRoute 54 = .ok (.iload_n 2, 1) := by decide +kernel
theorem dX3_tryRoute_55 : decode cX3_tryRoute 55 = .ok (.invokevirtual 105, 3) := by decide +kernel
theorem dX3_tryRoute_58 : decode cX3_tryRoute 58 = .ok (.ifCond .eq 20, 3) := by decide +kernel
theorem dX3_tryRoute_61 : decode cX3_tryRoute 61 = .ok (.aload_n 0, 1) := by decide +kernel
theorem dX3_tryRoute_62 : decode cX3_tryRoute 62 = .ok (.iload 5, 2) := by decide +kernel
theorem dX3_tryRoute_64 : decode cX3_tryRoute 64 = .ok (.iconst 1, 1) := by decide +kernel
theorem dX3_tryRoute_65 : decode cX3_tryRoute 65 = .ok (.iadd, 1) := by decide +kernel
theorem dX3_tryRoute_66 : decode cX3_tryRoute 66 = .ok (.putfield 22, 3) := by decide +kernel
theorem dX3_tryRoute_69 : decode cX3_tryRoute 69 = .ok (.aload_n 0, 1) := by decide +kernel
theorem dX3_tryRoute_70 : decode cX3_tryRoute 70 = .ok (.getfield 32, 3) := by decide +kernel
theorem dX3_tryRoute_73 : decode cX3_tryRoute 73 = .ok (.istore 8, 2) := by decide +kernel
theorem dX3_tryRoute_75 : decode cX3_tryRoute 75 = .ok (.goto 37, 3) := by decide +kernel
theorem dX3_tryRoute_78 : decode cX3_tryRoute 78 = .ok (.aload 7, 2) := by decide +kernel
theorem dX3_tryRoute_80 : decode cX3_tryRoute 80 = .ok (.iload_n 2, 1) := by decide +kernel
theorem dX3_tryRoute_81 : decode cX3_tryRoute 81 = .ok (.invokevirtual 108, 3) := by decide +kernel
theorem dX3_tryRoute_84 : decode cX3_tryRoute 84 = .ok (.ifCond .eq 28, 3) := by decide +kernel
theorem dX3_tryRoute_87 : decode cX3_tryRoute 87 = .ok (.aload_n 0, 1) := by decide +kernel
theorem dX3_tryRoute_88 : decode cX3_tryRoute 88 = .ok (.aload_n 1, 1) := by decide +kernel
theorem dX3_tryRoute_89 : decode cX3_tryRoute 89 = .ok (.aload 7, 2) := by decide +kernel
theorem dX3_tryRoute_91 : decode cX3_tryRoute 91 = .ok (.iload_n 2, 1) := by decide +kernel
theorem dX3_tryRoute_92 : decode cX3_tryRoute 92 = .ok (.invokevirtual 111, 3) := by decide +kernel
theorem dX3_tryRoute_95 : decode cX3_tryRoute 95 = .ok (.iload_n 3, 1) := by decide +kernel
theorem dX3_tryRoute_96 : decode cX3_tryRoute 96 = .ok (.iconst 1, 1) := by decide +kernel
theorem dX3_tryRoute_97 : decode cX3_tryRoute 97 = .ok (.aload 7, 2) := by decide +kernel
theorem dX3_tryRoute_99 : decode cX3_tryRoute 99 = .ok (.iload_n 2, 1) := by decide +kernel
theorem dX3_tryRoute_100 : decode cX3_tryRoute 100 = .ok (.invokevirtual 114, 3) := by decide +kernel
theorem dX3_tryRoute_103 : decode cX3_tryRoute 103 = .ok (.ishl, 1) := by decide +kernel
theorem dX3_tryRoute_104 : decode cX3_tryRoute 104 = .ok (.ior, 1) := by decide +kernel
theorem dX3_tryRoute_105 : decode cX3_tryRoute 105 = .ok (.iload 4, 2) := by decide +kernel
theorem dX3_tryRoute_107 : decode cX3_tryRoute 107 = .ok (.invokevirtual 58, 3) := by decide +kernel
theorem dX3_tryRoute_110 : decode cX3_tryRoute 110 = .ok (.istore 8, 2) := by decide +kernel
theorem dX3_tryRoute_112 : decode cX3_tryRoute 112 = .ok (.aload_n 0, 1) := by decide +kernel
theorem dX3_tryRoute_113 : decode cX3_tryRoute 113 = .ok (.getfield 12, 3) := by decide +kernel
theorem dX3_tryRoute_116 : decode cX3_tryRoute 116 = .ok (.iload 6, 2) := by decide +kernel
theorem dX3_tryRoute_118 : decode cX3_tryRoute 118 = .ok (.iload 8, 2) := by decide +kernel
theorem dX3_tryRoute_120 : decode cX3_tryRoute 120 = .ok (.invokevirtual 117, 3) := by decide +kernel
theorem dX3_tryRoute_123 : decode cX3_tryRoute 123 = .ok (.iload 8, 2) := by decide +kernel
theorem dX3_tryRoute_125 : decode cX3_tryRoute 125 = .ok (.ireturn, 1) := by decide +kernel
theorem dX4_init_0 : decode cX4_init 0 = .ok (.aload_n 0, 1) := by decide +kernel
theorem dX4_init_1 : decode cX4_init 1 = .ok (.invokespecial 3, 3) := by decide +kernel
theorem dX4_init_4 : decode cX4_init 4 = .ok (.aload_n 0, 1) := by decide +kernel
theorem dX4_init_5 : decode cX4_init 5 = .ok (.bipush 8, 2) := by decide +kernel
theorem dX4_init_7 : decode cX4_init 7 = .ok (.newarray .int, 2) := by decide +kernel
theorem dX4_init_9 : decode cX4_init 9 = .ok (.putfield 9, 3) := by decide +kernel
theorem dX4_init_12 : decode cX4_init 12 = .ok (.aload_n 0, 1) := by decide +kernel
theorem dX4_init_13 : decode cX4_init 13 = .ok (.bipush 64, 2) := by decide +kernel
theorem dX4_init_15 : decode cX4_init 15 = .ok (.newarray .int, 2) := by decide +kernel
theorem dX4_init_17 : decode cX4_init 17 = .ok (.putfield 15, 3) := by decide +kernel
theorem dX4_init_20 : decode cX4_init 20 = .ok (.aload_n 0, 1) := by decide +kernel
theorem dX4_init_21 : decode cX4_init 21 = .ok (.new 18, 3) := by decide +kernel
theorem dX4_init_24 : decode cX4_init 24 = .ok (.dup, 1) := by decide +kernel
theorem dX4_init_25 : decode cX4_init 25 = .ok (.invokespecial 20, 3) := by decide +kernel
theorem dX4_init_28 : decode cX4_init 28 = .ok (.putfield 21, 3) := by decide +kernel
theorem dX4_init_31 : decode cX4_init 31 = .ok (.aload_n 0, 1) := by decide +kernel
theorem dX4_init_32 : decode cX4_init 32 = .ok (.new 25, 3) := by decide +kernel
theorem dX4_init_35 : decode cX4_init 35 = .ok (.dup, 1) := by decide +kernel
theorem dX4_init_36 : decode cX4_init 36 = .ok (.invokespecial 27, 3) := by decide +kernel
theorem dX4_init_39 : decode cX4_init 39 = .ok (.putfield 28, 3) := by decide +kernel
theorem dX4_init_42 : decode cX4_init 42 = .ok (.aload_n 0, 1) := by decide +kernel
theorem dX4_init_43 : decode cX4_init 43 = .ok (.new 32, 3) := by decide +kernel
theorem dX4_init_46 : decode cX4_init 46 = .ok (.dup, 1) := by decide +kernel
theorem dX4_init_47 : decode cX4_init 47 = .ok (.invokespecial 34, 3) := by decide +kernel
theorem dX4_init_50 : decode cX4_init 50 = .ok (.putfield 35, 3) := by decide +kernel
theorem dX4_init_53 : decode cX4_init 53 = .ok (.aload_n 0, 1) := by decide +kernel
theorem dX4_init_54 : decode cX4_init 54 = .ok (.iconst 0, 1) := by decide +kernel
theorem dX4_init_55 : decode cX4_init 55 = .ok (.putfield 39, 3) := by decide +kernel
theorem dX4_init_58 : decode cX4_init 58 = .ok (.aload_n 0, 1) := by decide +kernel
theorem dX4_init_59 : decode cX4_init 59 = .ok (.iconst 0, 1) := by decide +kernel
theorem dX4_init_60 : decode cX4_init 60 = .ok (.putfield 43, 3) := by decide +kernel
theorem dX4_init_63 : decode cX4_init 63 = .ok (.aload_n 0, 1) := by decide +kernel
theorem dX4_init_64 : decode cX4_init 64 = .ok (.iconst 5, 1) := by decide +kernel
theorem dX4_init_65 : decode cX4_init 65 = .ok (.putfield 46, 3) := by decide +kernel
theorem dX4_init_68 : decode cX4_init 68 = .ok (.aload_n 0, 1) := by decide +kernel
theorem dX4_init_69 : decode cX4_init 69 = .ok (.iconst 0, 1) := by decide +kernel
theorem dX4_init_70 : decode cX4_init 70 = .ok (.putfield 49, 3) := by decide +kernel
theorem dX4_init_73 : decode cX4_init 73 = .ok (.return_, 1) := by decide +kernel
theorem dX4_copyFrom_0 : decode cX4_copyFrom 0 = .ok (.aload_n 1, 1) := by decide +kernel
theorem dX4_copyFrom_1 : decode cX4_copyFrom 1 = .ok (.getfield 9, 3) := by decide +kernel
theorem dX4_copyFrom_4 : decode cX4_copyFrom 4 = .ok (.iconst 0, 1) := by decide +kernel
theorem dX4_copyFrom_5 : decode cX4_copyFrom 5 = .ok (.aload_n 0, 1) := by decide +kernel
theorem dX4_copyFrom_6 : decode cX4_copyFrom 6 = .ok (.getfield 9, 3) := by decide +kernel
theorem dX4_copyFrom_9 : decode cX4_copyFrom 9 = .ok (.iconst 0, 1) := by decide +kernel
theorem dX4_copyFrom_10 : decode cX4_copyFrom 10 = .ok (.bipush 8, 2) := by decide +kernel
theorem dX4_copyFrom_12 : decode cX4_copyFrom 12 = .ok (.invokestatic 52, 3) := by decide +kernel
theorem dX4_copyFrom_15 : decode cX4_copyFrom 15 = .ok (.aload_n 1, 1) := by decide +kernel
theorem dX4_copyFrom_16 : decode cX4_copyFrom 16 = .ok (.getfield 15, 3) := by decide +kernel
theorem dX4_copyFrom_19 : decode cX4_copyFrom 19 = .ok (.iconst 0, 1) := by decide +kernel
theorem dX4_copyFrom_20 : decode cX4_copyFrom 20 = .ok (.aload_n 0, 1) := by decide +kernel
theorem dX4_copyFrom_21 : decode cX4_copyFrom 21 = .ok (.getfield 15, 3) := by decide +kernel
theorem dX4_copyFrom_24 : decode cX4_copyFrom 24 = .ok (.iconst 0, 1) := by decide +kernel
theorem dX4_copyFrom_25 : decode cX4_copyFrom 25 = .ok (.bipush 64, 2) := by decide +kernel
theorem dX4_copyFrom_27 : decode cX4_copyFrom 27 = .ok (.invokestatic 52, 3) := by decide +kernel
theorem dX4_copyFrom_30 : decode cX4_copyFrom 30 = .ok (.aload_n 0, 1) := by decide +kernel
theorem dX4_copyFrom_31 : decode cX4_copyFrom 31 = .ok (.getfield 21, 3) := by decide +kernel
theorem dX4_copyFrom_34 : decode cX4_copyFrom 34 = .ok (.aload_n 1, 1) := by decide +kernel
theorem dX4_copyFrom_35 : decode cX4_copyFrom 35 = .ok (.getfield 21, 3) := by decide +kernel
theorem dX4_copyFrom_38 : decode cX4_copyFrom 38 = .ok (.invokevirtual 58, 3) := by decide +kernel
theorem dX4_copyFrom_41 : decode cX4_copyFrom 41 = .ok (.aload_n 0, 1) := by decide +kernel
theorem dX4_copyFrom_42 : decode cX4_copyFrom 42 = .ok (.getfield 28, 3) := by decide +kernel
theorem dX4_copyFrom_45 : decode cX4_copyFrom 45 = .ok (.aload_n 1, 1) := by decide +kernel
theorem dX4_copyFrom_46 : decode cX4_copyFrom 46 = .ok (.getfield 28, 3) := by decide +kernel
theorem dX4_copyFrom_49 : decode cX4_copyFrom 49 = .ok (.invokevirtual 62, 3) := by decide +kernel
theorem dX4_copyFrom_52 : decode cX4_copyFrom 52 = .ok (.aload_n 0, 1) := by decide +kernel
theorem dX4_copyFrom_53 : decode cX4_copyFrom 53 = .ok (.getfield 35, 3) := by decide +kernel
theorem dX4_copyFrom_56 : decode cX4_copyFrom 56 = .ok (.aload_n 1, 1) := by decide +kernel
theorem dX4_copyFrom_57 : decode cX4_copyFrom 57 = .ok (.getfield 35, 3) := by decide +kernel
theorem dX4_copyFrom_60 : decode cX4_copyFrom 60 = .ok (.invokevirtual 65, 3) := by decide +kernel
theorem dX4_copyFrom_63 : decode cX4_copyFrom 63 = .ok (.aload_n 0, 1) := by decide +kernel
theorem dX4_copyFrom_64 : decode cX4_copyFrom 64 = .ok (.aload_n 1, 1) := by decide +kernel
theorem dX4_copyFrom_65 : decode cX4_copyFrom 65 = .ok (.getfield 39, 3) := by decide +kernel
theorem dX4_copyFrom_68 : decode cX4_copyFrom 68 = .ok (.putfield 39, 3) := by decide +kernel
theorem dX4_copyFrom_71 : decode cX4_copyFrom 71 = .ok (.aload_n 0, 1) := by decide +kernel
theorem dX4_copyFrom_72 : decode cX4_copyFrom 72 = .ok (.aload_n 1, 1) := by decide +kernel
theorem dX4_copyFrom_73 : decode cX4_copyFrom 73 = .ok (.getfield 43, 3) := by decide +kernel
theorem dX4_copyFrom_76 : decode cX4_copyFrom 76 = .ok (.putfield 43, 3) := by decide +kernel
theorem dX4_copyFrom_79 : decode cX4_copyFrom 79 = .ok (.aload_n 0, 1) := by decide +kernel
theorem dX4_copyFrom_80 : decode cX4_copyFrom 80 = .ok (.aload_n 1, 1) := by decide +kernel
theorem dX4_copyFrom_81 : decode cX4_copyFrom 81 = .ok (.getfield 46, 3) := by decide +kernel
theorem dX4_copyFrom_84 : decode cX4_copyFrom 84 = .ok (.putfield 46, 3) := by decide +kernel
theorem dX4_copyFrom_87 : decode cX4_copyFrom 87 = .ok (.aload_n 0, 1) := by decide +kernel
theorem dX4_copyFrom_88 : decode cX4_copyFrom 88 = .ok (.aload_n 1, 1) := by decide +kernel
theorem dX4_copyFrom_89 : decode cX4_copyFrom 89 = .ok (.getfield 49, 3) := by decide +kernel
theorem dX4_copyFrom_92 : decode cX4_copyFrom 92 = .ok (.putfield 49, 3) := by decide +kernel
theorem dX4_copyFrom_95 : decode cX4_copyFrom 95 = .ok (.return_, 1) := by decide +kernel
theorem dX4_routeRows_0 : decode cX4_routeRows 0 = .ok (.aload_n 0, 1) := by decide +kernel
theorem dX4_routeRows_1 : decode cX4_routeRows 1 = .ok (.getfield 21, 3) := by decide +kernel
theorem dX4_routeRows_4 : decode cX4_routeRows 4 = .ok (.areturn, 1) := by decide +kernel
theorem dX4_portRows_0 : decode cX4_portRows 0 = .ok (.aload_n 0, 1) := by decide +kernel
theorem dX4_portRows_1 : decode cX4_portRows 1 = .ok (.getfield 28, 3) := by decide +kernel
theorem dX4_portRows_4 : decode cX4_portRows 4 = .ok (.areturn, 1) := by decide +kernel
theorem dX4_callRows_0 : decode cX4_callRows 0 = .ok (.aload_n 0, 1) := by decide +kernel
theorem dX4_callRows_1 : decode cX4_callRows 1 = .ok (.getfield 35, 3) := by decide +kernel
theorem dX4_callRows_4 : decode cX4_callRows 4 = .ok (.areturn, 1) := by decide +kernel
theorem dX4_switchCount_0 : decode cX4_switchCount 0 = .ok (.aload_n 0, 1) := by decide +kernel
theorem dX4_switchCount_1 : decode cX4_switchCount 1 = .ok (.getfield 39, 3) := by decide +kernel
theorem dX4_switchCount_4 : decode cX4_switchCount 4 = .ok (.ireturn, 1) := by decide +kernel
theorem dX4_hopLimit_0 : decode cX4_hopLimit 0 = .ok (.aload_n 0, 1) := by decide +kernel
theorem dX4_hopLimit_1 : decode cX4_hopLimit 1 = .ok (.getfield 46, 3) := by decide +kernel
theorem dX4_hopLimit_4 : decode cX4_hopLimit 4 = .ok (.ireturn, 1) := by decide +kernel
theorem dX4_minutes_0 : decode cX4_minutes 0 = .ok (.aload_n 0, 1) := by decide +kernel
theorem dX4_minutes_1 : decode cX4_minutes 1 = .ok (.getfield 49, 3) := by decide +kernel
theorem dX4_minutes_4 : decode cX4_minutes 4 = .ok (.ireturn, 1) := by decide +kernel
theorem dX4_hasSwitch_0 : decode cX4_hasSwitch 0 = .ok (.iload_n 1, 1) := by decide +kernel
theorem dX4_hasSwitch_1 : decode cX4_hasSwitch 1 = .ok (.ifCond .lt 21, 3) := by decide +kernel
theorem dX4_hasSwitch_4 : decode cX4_hasSwitch 4 = .ok (.iload_n 1, 1) := by decide +kernel
theorem dX4_hasSwitch_5 : decode cX4_hasSwitch 5 = .ok (.aload_n 0, 1) := by decide +kernel
theorem dX4_hasSwitch_6 : decode cX4_hasSwitch 6 = .ok (.getfield 39, 3) := by decide +kernel
theorem dX4_hasSwitch_9 : decode cX4_hasSwitch 9 = .ok (.if_icmp .ge 13, 3) := by decide +kernel
theorem dX4_hasSwitch_12 : decode cX4_hasSwitch 12 = .ok (.iload_n 1, 1) := by decide +kernel
theorem dX4_hasSwitch_13 : decode cX4_hasSwitch 13 = .ok (.bipush 8, 2) := by decide +kernel
theorem dX4_hasSwitch_15 : decode cX4_hasSwitch 15 = .ok (.if_icmp .ge 7, 3) := by decide +kernel
theorem dX4_hasSwitch_18 : decode cX4_hasSwitch 18 = .ok (.iconst 1, 1) := by decide +kernel
theorem dX4_hasSwitch_19 : decode cX4_hasSwitch 19 = .ok (.goto 4, 3) := by decide +kernel
theorem dX4_hasSwitch_22 : decode cX4_hasSwitch 22 = .ok (.iconst 0, 1) := by decide +kernel
theorem dX4_hasSwitch_23 : decode cX4_hasSwitch 23 = .ok (.ireturn, 1) := by decide +kernel
theorem dX4_putSwitch_0 : decode cX4_putSwitch 0 = .ok (.aload_n 0, 1) := by decide +kernel
theorem dX4_putSwitch_1 : decode cX4_putSwitch 1 = .ok (.getfield 39, 3) := by decide +kernel
theorem dX4_putSwitch_4 : decode cX4_putSwitch 4 = .ok (.istore_n 1, 1) := by decide +kernel
theorem dX4_putSwitch_5 : decode cX4_putSwitch 5 = .ok (.iload_n 1, 1) := by decide +kernel
theorem dX4_putSwitch_6 : decode cX4_putSwitch 6 = .ok (.bipush 8, 2) := by decide +kernel
theorem dX4_putSwitch_8 : decode cX4_putSwitch 8 = .ok (.if_icmp .lt 6, 3) := by decide +kernel
theorem dX4_putSwitch_11 : decode cX4_putSwitch 11 = .ok (.bipush (-3), 2) := by decide +kernel
theorem dX4_putSwitch_13 : decode cX4_putSwitch 13 = .ok (.ireturn, 1) := by decide +kernel
theorem dX4_putSwitch_14 : decode cX4_putSwitch 14 = .ok (.aload_n 0, 1) := by decide +kernel
theorem dX4_putSwitch_15 : decode cX4_putSwitch 15 = .ok (.getfield 9, 3) := by decide +kernel
theorem dX4_putSwitch_18 : decode cX4_putSwitch 18 = .ok (.iload_n 1, 1) := by decide +kernel
theorem dX4_putSwitch_19 : decode cX4_putSwitch 19 = .ok (.bipush 30, 2) := by decide +kernel
theorem dX4_putSwitch_21 : decode cX4_putSwitch 21 = .ok (.iastore, 1) := by decide +kernel
theorem dX4_putSwitch_22 : decode cX4_putSwitch 22 = .ok (.aload_n 0, 1) := by decide +kernel
theorem dX4_putSwitch_23 : decode cX4_putSwitch 23 = .ok (.iload_n 1, 1) := by decide +kernel
theorem dX4_putSwitch_24 : decode cX4_putSwitch 24 = .ok (.iconst 1, 1) := by decide +kernel
theorem dX4_putSwitch_25 : decode cX4_putSwitch 25 = .ok (.iadd, 1) := by decide +kernel
theorem dX4_putSwitch_26 : decode cX4_putSwitch 26 = .ok (.putfield 39, 3) := by decide +kernel
theorem dX4_putSwitch_29 : decode cX4_putSwitch 29 = .ok (.iload_n 1, 1) := by decide +kernel
theorem dX4_putSwitch_30 : decode cX4_putSwitch 30 = .ok (.ireturn, 1) := by decide +kernel
theorem dX4_looksUp_0 : decode cX4_looksUp 0 = .ok (.aload_n 0, 1) := by decide +kernel
theorem dX4_looksUp_1 : decode cX4_looksUp 1 = .ok (.iload_n 1, 1) := by decide +kernel
theorem dX4_looksUp_2 : decode cX4_looksUp 2 = .ok (.invokevirtual 68, 3) := by decide +kernel
theorem dX4_looksUp_5 : decode cX4_looksUp 5 = .ok (.ifCond .eq 18, 3) := by decide +kernel
theorem dX4_looksUp_8 : decode cX4_looksUp 8 = .ok (.aload_n 0, 1) := by decide +kernel
theorem dX4_looksUp_9 : decode cX4_looksUp 9 = .ok (.getfield 43, 3) := by decide +kernel
theorem dX4_looksUp_12 : decode cX4_looksUp 12 = .ok (.iload_n 1, 1) := by decide +kernel
theorem dX4_looksUp_13 : decode cX4_looksUp 13 = .ok (.ishr, 1) := by decide +kernel
theorem dX4_looksUp_14 : decode cX4_looksUp 14 = .ok (.iconst 1, 1) := by decide +kernel
theorem dX4_looksUp_15 : decode cX4_looksUp 15 = .ok (.iand, 1) := by decide +kernel
theorem dX4_looksUp_16 : decode cX4_looksUp 16 = .ok (.ifCond .eq 7, 3) := by decide +kernel
theorem dX4_looksUp_19 : decode cX4_looksUp 19 = .ok (.iconst 1, 1) := by decide +kernel
theorem dX4_looksUp_20 : decode cX4_looksUp 20 = .ok (.goto 4, 3) := by decide +kernel
theorem dX4_looksUp_23 : decode cX4_looksUp 23 = .ok (.iconst 0, 1) := by decide +kernel
theorem dX4_looksUp_24 : decode cX4_looksUp 24 = .ok (.ireturn, 1) := by decide +kernel
theorem dX4_changeLookup_0 : decode cX4_changeLookup 0 = .ok (.aload_n 0, 1) := by decide +kernel
theorem dX4_changeLookup_1 : decode cX4_changeLookup 1 = .ok (.iload_n 1, 1) := by decide +kernel
theorem dX4_changeLookup_2 : decode cX4_changeLookup 2 = .ok (.invokevirtual 68, 3) := by decide +kernel
theorem dX4_changeLookup_5 : decode cX4_changeLookup 5 = .ok (.ifCond .eq 32, 3) := by decide +kernel
theorem dX4_changeLookup_8 : decode cX4_changeLookup 8 = .ok (.aload_n 0, 1) := by decide +kernel
theorem dX4_changeLookup_9 : decode cX4_changeLookup 9 = .ok (.iload_n 2, 1) := by decide +kernel
theorem dX4_changeLookup_10 : decode cX4_changeLookup 10 = .ok (.ifCond .eq 14, 3) := by decide +kernel
theorem dX4_changeLookup_13 : decode cX4_changeLookup 13 = .ok (.aload_n 0, 1) := by decide +kernel
theorem dX4_changeLookup_14 : decode cX4_changeLookup 14 = .ok (.getfield 43, 3) := by decide +kernel
theorem dX4_changeLookup_17 : decode cX4_changeLookup 17 = .ok (.iconst 1, 1) := by decide +kernel
theorem dX4_changeLookup_18 : decode cX4_changeLookup 18 = .ok (.iload_n 1, 1) := by decide +kernel
theorem dX4_changeLookup_19 : decode cX4_changeLookup 19 = .ok (.ishl, 1) := by decide +kernel
theorem dX4_changeLookup_20 : decode cX4_changeLookup 20 = .ok (.ior, 1) := by decide +kernel
theorem dX4_changeLookup_21 : decode cX4_changeLookup 21 = .ok (.goto 13, 3) := by decide +kernel
theorem dX4_changeLookup_24 : decode cX4_changeLookup 24 = .ok (.aload_n 0, 1) := by decide +kernel
theorem dX4_changeLookup_25 : decode cX4_changeLookup 25 = .ok (.getfield 43, 3) := by decide +kernel
theorem dX4_changeLookup_28 : decode cX4_changeLookup 28 = .ok (.iconst 1, 1) := by decide +kernel
theorem dX4_changeLookup_29 : decode cX4_changeLookup 29 = .ok (.iload_n 1, 1) := by decide +kernel
theorem dX4_changeLookup_30 : decode cX4_changeLookup 30 = .ok (.ishl, 1) := by decide +kernel
theorem dX4_changeLookup_31 : decode cX4_changeLookup 31 = .ok (.iconst (-1), 1) := by decide +kernel
theorem dX4_changeLookup_32 : decode cX4_changeLookup 32 = .ok (.ixor, 1) := by decide +kernel
theorem dX4_changeLookup_33 : decode cX4_changeLookup 33 = .ok (.iand, 1) := by decide +kernel
theorem dX4_changeLookup_34 : decode cX4_changeLookup 34 = .ok (.putfield 43, 3) := by decide +kernel
theorem dX4_changeLookup_37 : decode cX4_changeLookup 37 = .ok (.return_, 1) := by decide +kernel
theorem dX4_changeCodes_0 : decode cX4_changeCodes 0 = .ok (.aload_n 0, 1) := by decide +kernel
theorem dX4_changeCodes_1 : decode cX4_changeCodes 1 = .ok (.iload_n 1, 1) := by decide +kernel
theorem dX4_changeCodes_2 : decode cX4_changeCodes 2 = .ok (.invokevirtual 68, 3) := by decide +kernel
theorem dX4_changeCodes_5 : decode cX4_changeCodes 5 = .ok (.ifCond .ne 5, 3) := by decide +kernel
theorem dX4_changeCodes_8 : decode cX4_changeCodes 8 = .ok (.iconst (-1), 1) := by decide +kernel
theorem dX4_changeCodes_9 : decode cX4_changeCodes 9 = .ok (.ireturn, 1) := by decide +kernel
theorem dX4_changeCodes_10 : decode cX4_changeCodes 10 = .ok (.aload_n 0, 1) := by decide +kernel
theorem dX4_changeCodes_11 : decode cX4_changeCodes 11 = .ok (.getfield 9, 3) := by decide +kernel
theorem dX4_changeCodes_14 : decode cX4_changeCodes 14 = .ok (.iload_n 1, 1) := by decide +kernel
theorem dX4_changeCodes_15 : decode cX4_changeCodes 15 = .ok (.iaload, 1) := by decide +kernel
theorem dX4_changeCodes_16 : decode cX4_changeCodes 16 = .ok (.istore_n 3, 1) := by decide +kernel
theorem dX4_changeCodes_17 : decode cX4_changeCodes 17 = .ok (.aload_n 0, 1) := by decide +kernel
theorem dX4_changeCodes_18 : decode cX4_changeCodes 18 = .ok (.getfield 9, 3) := by decide +kernel
theorem dX4_changeCodes_21 : decode cX4_changeCodes 21 = .ok (.iload_n 1, 1) := by decide +kernel
theorem dX4_changeCodes_22 : decode cX4_changeCodes 22 = .ok (.iload_n 2, 1) := by decide +kernel
theorem dX4_changeCodes_23 : decode cX4_changeCodes 23 = .ok (.iastore, 1) := by decide +kernel
theorem dX4_changeCodes_24 : decode cX4_changeCodes 24 = .ok (.iload_n 3, 1) := by decide +kernel
theorem dX4_changeCodes_25 : decode cX4_changeCodes 25 = .ok (.ireturn, 1) := by decide +kernel
theorem dX4_goesOn_0 : decode cX4_goesOn 0 = .ok (.aload_n 0, 1) := by decide +kernel
theorem dX4_goesOn_1 : decode cX4_goesOn 1 = .ok (.iload_n 1, 1) := by decide +kernel
theorem dX4_goesOn_2 : decode cX4_goesOn 2 = .ok (.invokevirtual 68, 3) := by decide +kernel
theorem dX4_goesOn_5 : decode cX4_goesOn 5 = .ok (.ifCond .eq 20, 3) := by decide +kernel
theorem dX4_goesOn_8 : decode cX4_goesOn 8 = .ok (.aload_n 0, 1) := by decide +kernel
theorem dX4_goesOn_9 : decode cX4_goesOn 9 = .ok (.getfield 9, 3) := by decide +kernel
theorem dX4_goesOn_12 : decode cX4_goesOn 12 = .ok (.iload_n 1, 1) := by decide +kernel
theorem dX4_goesOn_13 : decode cX4_goesOn 13 = .ok (.iaload, 1) := by decide +kernel
theorem dX4_goesOn_14 : decode cX4_goesOn 14 = .ok (.iload_n 2, 1) := by decide +kernel
theorem dX4_goesOn_15 : decode cX4_goesOn 15 = .ok (.ishr, 1) := by decide +kernel
theorem dX4_goesOn_16 : decode cX4_goesOn 16 = .ok (.iconst 1, 1) := by decide +kernel
theorem dX4_goesOn_17 : decode cX4_goesOn 17 = .ok (.iand, 1) := by decide +kernel
theorem dX4_goesOn_18 : decode cX4_goesOn 18 = .ok (.ifCond .eq 7, 3) := by decide +kernel
theorem dX4_goesOn_21 : decode cX4_goesOn 21 = .ok (.iconst 1, 1) := by decide +kernel
theorem dX4_goesOn_22 : decode cX4_goesOn 22 = .ok (.goto 4, 3) := by decide +kernel
theorem dX4_goesOn_25 : decode cX4_goesOn 25 = .ok (.iconst 0, 1) := by decide +kernel
theorem dX4_goesOn_26 : decode cX4_goesOn 26 = .ok (.ireturn, 1) := by decide +kernel
theorem dX4_changeLimit_0 : decode cX4_changeLimit 0 = .ok (.aload_n 0, 1) := by decide +kernel
theorem dX4_changeLimit_1 : decode cX4_changeLimit 1 = .ok (.getfield 46, 3) := by decide +kernel
theorem dX4_changeLimit_4 : decode cX4_changeLimit 4 = .ok (.istore_n 2, 1) := by decide +kernel
theorem dX4_changeLimit_5 : decode cX4_changeLimit 5 = .ok (.aload_n 0, 1) := by decide +kernel
theorem dX4_changeLimit_6 : decode cX4_changeLimit 6 = .ok (.iload_n 1, 1) := by decide +kernel
theorem dX4_changeLimit_7 : decode cX4_changeLimit 7 = .ok (.putfield 46, 3) := by decide +kernel
theorem dX4_changeLimit_10 : decode cX4_changeLimit 10 = .ok (.iload_n 2, 1) := by decide +kernel
theorem dX4_changeLimit_11 : decode cX4_changeLimit 11 = .ok (.ireturn, 1) := by decide +kernel
theorem dX4_letPass_0 : decode cX4_letPass 0 = .ok (.aload_n 0, 1) := by decide +kernel
theorem dX4_letPass_1 : decode cX4_letPass 1 = .ok (.dup, 1) := by decide +kernel
theorem dX4_letPass_2 : decode cX4_letPass 2 = .ok (.getfield 49, 3) := by decide +kernel
theorem dX4_letPass_5 : decode cX4_letPass 5 = .ok (.iload_n 1, 1) := by decide +kernel
theorem dX4_letPass_6 : decode cX4_letPass 6 = .ok (.iadd, 1) := by decide +kernel
theorem dX4_letPass_7 : decode cX4_letPass 7 = .ok (.putfield 49, 3) := by decide +kernel
theorem dX4_letPass_10 : decode cX4_letPass 10 = .ok (.aload_n 0, 1) := by decide +kernel
theorem dX4_letPass_11 : decode cX4_letPass 11 = .ok (.getfield 49, 3) := by decide +kernel
theorem dX4_letPass_14 : decode cX4_letPass 14 = .ok (.ireturn, 1) := by decide +kernel
theorem dX4_routeRefusal_0 : decode cX4_routeRefusal 0 = .ok (.aload_n 0, 1) := by decide +kernel
theorem dX4_routeRefusal_1 : decode cX4_routeRefusal 1 = .ok (.iload_n 1, 1) := by decide +kernel
theorem dX4_routeRefusal_2 : decode cX4_routeRefusal 2 = .ok (.invokevirtual 68, 3) := by decide +kernel
theorem dX4_routeRefusal_5 : decode cX4_routeRefusal 5 = .ok (.ifCond .eq 44, 3) := by decide +kernel
theorem dX4_routeRefusal_8 : decode cX4_routeRefusal 8 = .ok (.iload_n 2, 1) := by decide +kernel
theorem dX4_routeRefusal_9 : decode cX4_routeRefusal 9 = .ok (.iconst 0, 1) := by decide +kernel
theorem dX4_routeRefusal_10 : decode cX4_routeRefusal 10 = .ok (.ldc 72, 2) := by decide +kernel
theorem dX4_routeRefusal_12 : decode cX4_routeRefusal 12 = .ok (.invokestatic 73, 3) := by decide +kernel
theorem dX4_routeRefusal_15 : decode cX4_routeRefusal 15 = .ok (.ifCond .eq 34, 3) := by decide +kernel
theorem dX4_routeRefusal_18 : decode cX4_routeRefusal 18 = .ok (.aload_n 0, 1) := by decide +kernel
theorem dX4_routeRefusal_19 : decode cX4_routeRefusal 19 = .ok (.iload_n 3, 1) := by decide +kernel
theorem dX4_routeRefusal_20 : decode cX4_routeRefusal 20 = .ok (.invokevirtual 68, 3) := by decide +kernel
theorem dX4_routeRefusal_23 : decode cX4_routeRefusal 23 = .ok (.ifCond .eq 26, 3) := by decide +kernel
theorem dX4_routeRefusal_26 : decode cX4_routeRefusal 26 = .ok (.iload 4, 2) := by decide +kernel
theorem dX4_routeRefusal_28 : decode cX4_routeRefusal 28 = .ok (.iconst 0, 1) := by decide +kernel
theorem dX4_routeRefusal_29 : decode cX4_routeRefusal 29 = .ok (.sipush 1000, 3) := by decide +kernel
theorem dX4_routeRefusal_32 : decode cX4_routeRefusal 32 = .ok (.invokestatic 73, 3) := by decide +kernel
theorem dX4_routeRefusal_35 : decode cX4_routeRefusal 35 = .ok (.ifCond .eq 14, 3) := by decide +kernel
theorem dX4_routeRefusal_38 : decode cX4_routeRefusal 38 = .ok (.iload 5, 2) := by decide +kernel
theorem dX4_routeRefusal_40 : decode cX4_routeRefusal 40 = .ok (.iconst 1, 1) := by decide +kernel
theorem dX4_routeRefusal_41 : decode cX4_routeRefusal 41 = .ok (.bipush 20, 2) := by decide +kernel
theorem dX4_routeRefusal_43 : decode cX4_routeRefusal 43 = .ok (.invokestatic 73, 3) := by decide +kernel
theorem dX4_routeRefusal_46 : decode cX4_routeRefusal 46 = .ok (.ifCond .ne 5, 3) := by decide +kernel
theorem dX4_routeRefusal_49 : decode cX4_routeRefusal 49 = .ok (.iconst (-1), 1) := by decide +kernel
theorem dX4_routeRefusal_50 : decode cX4_routeRefusal 50 = .ok (.ireturn, 1) := by decide +kernel
theorem dX4_routeRefusal_51 : decode cX4_routeRefusal 51 = .ok (.aload_n 0, 1) := by decide +kernel
theorem dX4_routeRefusal_52 : decode cX4_routeRefusal 52 = .ok (.getfield 21, 3) := by decide +kernel
theorem dX4_routeRefusal_55 : decode cX4_routeRefusal 55 = .ok (.invokevirtual 77, 3) := by decide +kernel
theorem dX4_routeRefusal_58 : decode cX4_routeRefusal 58 = .ok (.bipush 40, 2) := by decide +kernel
theorem dX4_routeRefusal_60 : decode cX4_routeRefusal 60 = .ok (.if_icmp .lt 8, 3) := by decide +kernel
theorem dX4_routeRefusal_63 : decode cX4_routeRefusal 63 = .ok (.bipush (-3), 2) := by decide +kernel
theorem dX4_routeRefusal_65 : decode cX4_routeRefusal 65 = .ok (.goto 4, 3) := by decide +kernel
theorem dX4_routeRefusal_68 : decode cX4_routeRefusal 68 = .ok (.iconst 0, 1) := by decide +kernel
theorem dX4_routeRefusal_69 : decode cX4_routeRefusal 69 = .ok (.ireturn, 1) := by decide +kernel
theorem dX4_portRefusal_0 : decode cX4_portRefusal 0 = .ok (.aload_n 0, 1) := by decide +kernel
theorem dX4_portRefusal_1 : decode cX4_portRefusal 1 = .ok (.iload_n 2, 1) := by decide +kernel
theorem dX4_portRefusal_2 : decode cX4_portRefusal 2 = .ok (.invokevirtual 68, 3) := by decide +kernel
theorem dX4_portRefusal_5 : decode cX4_portRefusal 5 = .ok (.ifCond .eq 10, 3) := by decide +kernel
theorem dX4_portRefusal_8 : decode cX4_portRefusal 8 = .ok (.iload_n 1, 1) := by decide +kernel
theorem dX4_portRefusal_9 : decode cX4_portRefusal 9 = .ok (.invokestatic 81, 3) := by decide +kernel
end
section
theorem dX4_portRefusal_12 : decode cX4_portRefusal 12 = .ok (.ifCond .ne 5, 3) := by decide +kernel
theorem dX4_portRefusal_15 : decode cX4_portRefusal 15 = .ok (.iconst (-1), 1) := by decide +kernel
theorem dX4_portRefusal_16 : decode cX4_portRefusal 16 = .ok (.ireturn, 1) := by decide +kernel
theorem dX4_portRefusal_17 : decode cX4_portRefusal 17 = .ok (.aload_n 0, 1) := by decide +kernel
theorem dX4_portRefusal_18 : decode cX4_portRefusal 18 = .ok (.getfield 28, 3) := by decide +kernel
theorem dX4_portRefusal_21 : decode cX4_portRefusal 21 = .ok (.iload_n 1, 1) := by decide +kernel
theorem dX4_portRefusal_22 : decode cX4_portRefusal 22 = .ok (.invokevirtual 84, 3) := by decide +kernel
theorem dX4_portRefusal_25 : decode cX4_portRefusal 25 = .ok (.bipush (-9), 2) := by decide +kernel
theorem dX4_portRefusal_27 : decode cX4_portRefusal 27 = .ok (.if_icmp .ne 7, 3) := by decide +kernel
theorem dX4_portRefusal_30 : decode cX4_portRefusal 30 = .ok (.iconst 1, 1) := by decide +kernel
theorem dX4_portRefusal_31 : decode cX4_portRefusal 31 = .ok (.goto 4, 3) := by decide +kernel
theorem dX4_portRefusal_34 : decode cX4_portRefusal 34 = .ok (.iconst 0, 1) := by decide +kernel
theorem dX4_portRefusal_35 : decode cX4_portRefusal 35 = .ok (.istore_n 3, 1) := by decide +kernel
theorem dX4_portRefusal_36 : decode cX4_portRefusal 36 = .ok (.iload_n 3, 1) := by decide +kernel
theorem dX4_portRefusal_37 : decode cX4_portRefusal 37 = .ok (.ifCond .eq 20, 3) := by decide +kernel
theorem dX4_portRefusal_40 : decode cX4_portRefusal 40 = .ok (.aload_n 0, 1) := by decide +kernel
theorem dX4_portRefusal_41 : decode cX4_portRefusal 41 = .ok (.getfield 28, 3) := by decide +kernel
theorem dX4_portRefusal_44 : decode cX4_portRefusal 44 = .ok (.invokevirtual 88, 3) := by decide +kernel
theorem dX4_portRefusal_47 : decode cX4_portRefusal 47 = .ok (.bipush 30, 2) := by decide +kernel
theorem dX4_portRefusal_49 : decode cX4_portRefusal 49 = .ok (.if_icmp .lt 8, 3) := by decide +kernel
theorem dX4_portRefusal_52 : decode cX4_portRefusal 52 = .ok (.bipush (-3), 2) := by decide +kernel
theorem dX4_portRefusal_54 : decode cX4_portRefusal 54 = .ok (.goto 4, 3) := by decide +kernel
theorem dX4_portRefusal_57 : decode cX4_portRefusal 57 = .ok (.iconst 0, 1) := by decide +kernel
theorem dX4_portRefusal_58 : decode cX4_portRefusal 58 = .ok (.ireturn, 1) := by decide +kernel
theorem dX4_markAt_0 : decode cX4_markAt 0 = .ok (.iload_n 3, 1) := by decide +kernel
theorem dX4_markAt_1 : decode cX4_markAt 1 = .ok (.bipush (-9), 2) := by decide +kernel
theorem dX4_markAt_3 : decode cX4_markAt 3 = .ok (.if_icmp .ne 22, 3) := by decide +kernel
theorem dX4_markAt_6 : decode cX4_markAt 6 = .ok (.aload_n 0, 1) := by decide +kernel
theorem dX4_markAt_7 : decode cX4_markAt 7 = .ok (.iload_n 1, 1) := by decide +kernel
theorem dX4_markAt_8 : decode cX4_markAt 8 = .ok (.invokevirtual 89, 3) := by decide +kernel
theorem dX4_markAt_11 : decode cX4_markAt 11 = .ok (.ifCond .eq 14, 3) := by decide +kernel
theorem dX4_markAt_14 : decode cX4_markAt 14 = .ok (.aload_n 0, 1) := by decide +kernel
theorem dX4_markAt_15 : decode cX4_markAt 15 = .ok (.getfield 28, 3) := by decide +kernel
theorem dX4_markAt_18 : decode cX4_markAt 18 = .ok (.iload_n 2, 1) := by decide +kernel
theorem dX4_markAt_19 : decode cX4_markAt 19 = .ok (.invokevirtual 84, 3) := by decide +kernel
theorem dX4_markAt_22 : decode cX4_markAt 22 = .ok (.goto 4, 3) := by decide +kernel
theorem dX4_markAt_25 : decode cX4_markAt 25 = .ok (.iload_n 3, 1) := by decide +kernel
theorem dX4_markAt_26 : decode cX4_markAt 26 = .ok (.ireturn, 1) := by decide +kernel
theorem dX4_connect_0 : decode cX4_connect 0 = .ok (.aload_n 0, 1) := by decide +kernel
theorem dX4_connect_1 : decode cX4_connect 1 = .ok (.getfield 35, 3) := by decide +kernel
theorem dX4_connect_4 : decode cX4_connect 4 = .ok (.iload_n 1, 1) := by decide +kernel
theorem dX4_connect_5 : decode cX4_connect 5 = .ok (.aload_n 2, 1) := by decide +kernel
theorem dX4_connect_6 : decode cX4_connect 6 = .ok (.invokevirtual 92, 3) := by decide +kernel
theorem dX4_connect_9 : decode cX4_connect 9 = .ok (.aload_n 0, 1) := by decide +kernel
theorem dX4_connect_10 : decode cX4_connect 10 = .ok (.getfield 49, 3) := by decide +kernel
theorem dX4_connect_13 : decode cX4_connect 13 = .ok (.invokevirtual 97, 3) := by decide +kernel
theorem dX4_connect_16 : decode cX4_connect 16 = .ok (.iconst 0, 1) := by decide +kernel
theorem dX4_connect_17 : decode cX4_connect 17 = .ok (.istore_n 3, 1) := by decide +kernel
theorem dX4_connect_18 : decode cX4_connect 18 = .ok (.iload_n 3, 1) := by decide +kernel
theorem dX4_connect_19 : decode cX4_connect 19 = .ok (.bipush 6, 2) := by decide +kernel
theorem dX4_connect_21 : decode cX4_connect 21 = .ok (.if_icmp .ge 43, 3) := by decide +kernel
theorem dX4_connect_24 : decode cX4_connect 24 = .ok (.iload_n 3, 1) := by decide +kernel
theorem dX4_connect_25 : decode cX4_connect 25 = .ok (.aload_n 2, 1) := by decide +kernel
theorem dX4_connect_26 : decode cX4_connect 26 = .ok (.invokevirtual 101, 3) := by decide +kernel
theorem dX4_connect_29 : decode cX4_connect 29 = .ok (.if_icmp .ge 35, 3) := by decide +kernel
theorem dX4_connect_32 : decode cX4_connect 32 = .ok (.aload_n 2, 1) := by decide +kernel
theorem dX4_connect_33 : decode cX4_connect 33 = .ok (.iload_n 3, 1) := by decide +kernel
theorem dX4_connect_34 : decode cX4_connect 34 = .ok (.invokevirtual 104, 3) := by decide +kernel
theorem dX4_connect_37 : decode cX4_connect 37 = .ok (.istore 4, 2) := by decide +kernel
theorem dX4_connect_39 : decode cX4_connect 39 = .ok (.aload_n 0, 1) := by decide +kernel
theorem dX4_connect_40 : decode cX4_connect 40 = .ok (.getfield 35, 3) := by decide +kernel
theorem dX4_connect_43 : decode cX4_connect 43 = .ok (.iload_n 1, 1) := by decide +kernel
theorem dX4_connect_44 : decode cX4_connect 44 = .ok (.iload 4, 2) := by decide +kernel
theorem dX4_connect_46 : decode cX4_connect 46 = .ok (.invokevirtual 107, 3) := by decide +kernel
theorem dX4_connect_49 : decode cX4_connect 49 = .ok (.aload_n 0, 1) := by decide +kernel
theorem dX4_connect_50 : decode cX4_connect 50 = .ok (.getfield 21, 3) := by decide +kernel
theorem dX4_connect_53 : decode cX4_connect 53 = .ok (.iload 4, 2) := by decide +kernel
theorem dX4_connect_55 : decode cX4_connect 55 = .ok (.invokevirtual 111, 3) := by decide +kernel
theorem dX4_connect_58 : decode cX4_connect 58 = .ok (.iinc 3 1, 3) := by decide +kernel
theorem dX4_connect_61 : decode cX4_connect 61 = .ok (.goto (-43), 3) := by decide +kernel
theorem dX4_connect_64 : decode cX4_connect 64 = .ok (.return_, 1) := by decide +kernel
theorem dX4_settle_0 : decode cX4_settle 0 = .ok (.aload_n 0, 1) := by decide +kernel
theorem dX4_settle_1 : decode cX4_settle 1 = .ok (.getfield 35, 3) := by decide +kernel
theorem dX4_settle_4 : decode cX4_settle 4 = .ok (.iload_n 1, 1) := by decide +kernel
theorem dX4_settle_5 : decode cX4_settle 5 = .ok (.invokevirtual 115, 3) := by decide +kernel
theorem dX4_settle_8 : decode cX4_settle 8 = .ok (.istore_n 2, 1) := by decide +kernel
theorem dX4_settle_9 : decode cX4_settle 9 = .ok (.iconst 1, 1) := by decide +kernel
theorem dX4_settle_10 : decode cX4_settle 10 = .ok (.aload_n 0, 1) := by decide +kernel
theorem dX4_settle_11 : decode cX4_settle 11 = .ok (.getfield 49, 3) := by decide +kernel
theorem dX4_settle_14 : decode cX4_settle 14 = .ok (.iload_n 2, 1) := by decide +kernel
theorem dX4_settle_15 : decode cX4_settle 15 = .ok (.isub, 1) := by decide +kernel
theorem dX4_settle_16 : decode cX4_settle 16 = .ok (.invokestatic 118, 3) := by decide +kernel
theorem dX4_settle_19 : decode cX4_settle 19 = .ok (.istore_n 3, 1) := by decide +kernel
theorem dX4_settle_20 : decode cX4_settle 20 = .ok (.iconst 0, 1) := by decide +kernel
theorem dX4_settle_21 : decode cX4_settle 21 = .ok (.istore 4, 2) := by decide +kernel
theorem dX4_settle_23 : decode cX4_settle 23 = .ok (.iconst 0, 1) := by decide +kernel
theorem dX4_settle_24 : decode cX4_settle 24 = .ok (.istore 5, 2) := by decide +kernel
theorem dX4_settle_26 : decode cX4_settle 26 = .ok (.iload 5, 2) := by decide +kernel
theorem dX4_settle_28 : decode cX4_settle 28 = .ok (.bipush 6, 2) := by decide +kernel
theorem dX4_settle_30 : decode cX4_settle 30 = .ok (.if_icmp .ge 46, 3) := by decide +kernel
theorem dX4_settle_33 : decode cX4_settle 33 = .ok (.iload 5, 2) := by decide +kernel
theorem dX4_settle_35 : decode cX4_settle 35 = .ok (.aload_n 0, 1) := by decide +kernel
theorem dX4_settle_36 : decode cX4_settle 36 = .ok (.getfield 35, 3) := by decide +kernel
theorem dX4_settle_39 : decode cX4_settle 39 = .ok (.iload_n 1, 1) := by decide +kernel
theorem dX4_settle_40 : decode cX4_settle 40 = .ok (.invokevirtual 124, 3) := by decide +kernel
theorem dX4_settle_43 : decode cX4_settle 43 = .ok (.if_icmp .ge 33, 3) := by decide +kernel
theorem dX4_settle_46 : decode cX4_settle 46 = .ok (.iload 4, 2) := by decide +kernel
theorem dX4_settle_48 : decode cX4_settle 48 = .ok (.aload_n 0, 1) := by decide +kernel
theorem dX4_settle_49 : decode cX4_settle 49 = .ok (.aload_n 0, 1) := by decide +kernel
theorem dX4_settle_50 : decode cX4_settle 50 = .ok (.getfield 35, 3) := by decide +kernel
theorem dX4_settle_53 : decode cX4_settle 53 = .ok (.iload_n 1, 1) := by decide +kernel
theorem dX4_settle_54 : decode cX4_settle 54 = .ok (.iload 5, 2) := by decide +kernel
theorem dX4_settle_56 : decode cX4_settle 56 = .ok (.invokevirtual 126, 3) := by decide +kernel
theorem dX4_settle_59 : decode cX4_settle 59 = .ok (.iload_n 2, 1) := by decide +kernel
theorem dX4_settle_60 : decode cX4_settle 60 = .ok (.invokestatic 128, 3) := by decide +kernel
theorem dX4_settle_63 : decode cX4_settle 63 = .ok (.iload_n 3, 1) := by decide +kernel
theorem dX4_settle_64 : decode cX4_settle 64 = .ok (.invokevirtual 131, 3) := by decide +kernel
theorem dX4_settle_67 : decode cX4_settle 67 = .ok (.iadd, 1) := by decide +kernel
theorem dX4_settle_68 : decode cX4_settle 68 = .ok (.istore 4, 2) := by decide +kernel
theorem dX4_settle_70 : decode cX4_settle 70 = .ok (.iinc 5 1, 3) := by decide +kernel
theorem dX4_settle_73 : decode cX4_settle 73 = .ok (.goto (-47), 3) := by decide +kernel
theorem dX4_settle_76 : decode cX4_settle 76 = .ok (.aload_n 0, 1) := by decide +kernel
theorem dX4_settle_77 : decode cX4_settle 77 = .ok (.getfield 35, 3) := by decide +kernel
theorem dX4_settle_80 : decode cX4_settle 80 = .ok (.iload_n 1, 1) := by decide +kernel
theorem dX4_settle_81 : decode cX4_settle 81 = .ok (.invokevirtual 135, 3) := by decide +kernel
theorem dX4_settle_84 : decode cX4_settle 84 = .ok (.iload 4, 2) := by decide +kernel
theorem dX4_settle_86 : decode cX4_settle 86 = .ok (.ireturn, 1) := by decide +kernel
theorem dX4_settleStep_0 : decode cX4_settleStep 0 = .ok (.aload_n 0, 1) := by decide +kernel
theorem dX4_settleStep_1 : decode cX4_settleStep 1 = .ok (.getfield 21, 3) := by decide +kernel
theorem dX4_settleStep_4 : decode cX4_settleStep 4 = .ok (.iload_n 1, 1) := by decide +kernel
theorem dX4_settleStep_5 : decode cX4_settleStep 5 = .ok (.invokevirtual 138, 3) := by decide +kernel
theorem dX4_settleStep_8 : decode cX4_settleStep 8 = .ok (.ifCond .eq 5, 3) := by decide +kernel
theorem dX4_settleStep_11 : decode cX4_settleStep 11 = .ok (.iconst 0, 1) := by decide +kernel
theorem dX4_settleStep_12 : decode cX4_settleStep 12 = .ok (.ireturn, 1) := by decide +kernel
theorem dX4_settleStep_13 : decode cX4_settleStep 13 = .ok (.aload_n 0, 1) := by decide +kernel
theorem dX4_settleStep_14 : decode cX4_settleStep 14 = .ok (.getfield 21, 3) := by decide +kernel
theorem dX4_settleStep_17 : decode cX4_settleStep 17 = .ok (.iload_n 1, 1) := by decide +kernel
theorem dX4_settleStep_18 : decode cX4_settleStep 18 = .ok (.iload_n 2, 1) := by decide +kernel
theorem dX4_settleStep_19 : decode cX4_settleStep 19 = .ok (.invokevirtual 141, 3) := by decide +kernel
theorem dX4_settleStep_22 : decode cX4_settleStep 22 = .ok (.iload_n 3, 1) := by decide +kernel
theorem dX4_settleStep_23 : decode cX4_settleStep 23 = .ok (.imul, 1) := by decide +kernel
theorem dX4_settleStep_24 : decode cX4_settleStep 24 = .ok (.istore 4, 2) := by decide +kernel
theorem dX4_settleStep_26 : decode cX4_settleStep 26 = .ok (.aload_n 0, 1) := by decide +kernel
theorem dX4_settleStep_27 : decode cX4_settleStep 27 = .ok (.getfield 21, 3) := by decide +kernel
theorem dX4_settleStep_30 : decode cX4_settleStep 30 = .ok (.iload_n 1, 1) := by decide +kernel
theorem dX4_settleStep_31 : decode cX4_settleStep 31 = .ok (.invokevirtual 144, 3) := by decide +kernel
theorem dX4_settleStep_34 : decode cX4_settleStep 34 = .ok (.aload_n 0, 1) := by decide +kernel
theorem dX4_settleStep_35 : decode cX4_settleStep 35 = .ok (.aload_n 0, 1) := by decide +kernel
theorem dX4_settleStep_36 : decode cX4_settleStep 36 = .ok (.getfield 21, 3) := by decide +kernel
theorem dX4_settleStep_39 : decode cX4_settleStep 39 = .ok (.iload_n 1, 1) := by decide +kernel
theorem dX4_settleStep_40 : decode cX4_settleStep 40 = .ok (.invokevirtual 147, 3) := by decide +kernel
theorem dX4_settleStep_43 : decode cX4_settleStep 43 = .ok (.aload_n 0, 1) := by decide +kernel
theorem dX4_settleStep_44 : decode cX4_settleStep 44 = .ok (.getfield 21, 3) := by decide +kernel
theorem dX4_settleStep_47 : decode cX4_settleStep 47 = .ok (.iload_n 1, 1) := by decide +kernel
theorem dX4_settleStep_48 : decode cX4_settleStep 48 = .ok (.invokevirtual 148, 3) := by decide +kernel
theorem dX4_settleStep_51 : decode cX4_settleStep 51 = .ok (.iload 4, 2) := by decide +kernel
theorem dX4_settleStep_53 : decode cX4_settleStep 53 = .ok (.invokevirtual 151, 3) := by decide +kernel
theorem dX4_settleStep_56 : decode cX4_settleStep 56 = .ok (.iload 4, 2) := by decide +kernel
theorem dX4_settleStep_58 : decode cX4_settleStep 58 = .ok (.ireturn, 1) := by decide +kernel
theorem dX4_addDebt_0 : decode cX4_addDebt 0 = .ok (.aload_n 0, 1) := by decide +kernel
theorem dX4_addDebt_1 : decode cX4_addDebt 1 = .ok (.iload_n 1, 1) := by decide +kernel
theorem dX4_addDebt_2 : decode cX4_addDebt 2 = .ok (.invokevirtual 68, 3) := by decide +kernel
theorem dX4_addDebt_5 : decode cX4_addDebt 5 = .ok (.ifCond .eq 26, 3) := by decide +kernel
theorem dX4_addDebt_8 : decode cX4_addDebt 8 = .ok (.aload_n 0, 1) := by decide +kernel
theorem dX4_addDebt_9 : decode cX4_addDebt 9 = .ok (.iload_n 2, 1) := by decide +kernel
theorem dX4_addDebt_10 : decode cX4_addDebt 10 = .ok (.invokevirtual 68, 3) := by decide +kernel
theorem dX4_addDebt_13 : decode cX4_addDebt 13 = .ok (.ifCond .eq 18, 3) := by decide +kernel
theorem dX4_addDebt_16 : decode cX4_addDebt 16 = .ok (.aload_n 0, 1) := by decide +kernel
theorem dX4_addDebt_17 : decode cX4_addDebt 17 = .ok (.getfield 15, 3) := by decide +kernel
theorem dX4_addDebt_20 : decode cX4_addDebt 20 = .ok (.iload_n 1, 1) := by decide +kernel
theorem dX4_addDebt_21 : decode cX4_addDebt 21 = .ok (.bipush 8, 2) := by decide +kernel
theorem dX4_addDebt_23 : decode cX4_addDebt 23 = .ok (.imul, 1) := by decide +kernel
theorem dX4_addDebt_24 : decode cX4_addDebt 24 = .ok (.iload_n 2, 1) := by decide +kernel
theorem dX4_addDebt_25 : decode cX4_addDebt 25 = .ok (.iadd, 1) := by decide +kernel
theorem dX4_addDebt_26 : decode cX4_addDebt 26 = .ok (.dup2, 1) := by decide +kernel
theorem dX4_addDebt_27 : decode cX4_addDebt 27 = .ok (.iaload, 1) := by decide +kernel
theorem dX4_addDebt_28 : decode cX4_addDebt 28 = .ok (.iload_n 3, 1) := by decide +kernel
theorem dX4_addDebt_29 : decode cX4_addDebt 29 = .ok (.iadd, 1) := by decide +kernel
theorem dX4_addDebt_30 : decode cX4_addDebt 30 = .ok (.iastore, 1) := by decide +kernel
theorem dX4_addDebt_31 : decode cX4_addDebt 31 = .ok (.return_, 1) := by decide +kernel
theorem dX4_debt_0 : decode cX4_debt 0 = .ok (.aload_n 0, 1) := by decide +kernel
theorem dX4_debt_1 : decode cX4_debt 1 = .ok (.iload_n 1, 1) := by decide +kernel
theorem dX4_debt_2 : decode cX4_debt 2 = .ok (.invokevirtual 68, 3) := by decide +kernel
theorem dX4_debt_5 : decode cX4_debt 5 = .ok (.ifCond .eq 25, 3) := by decide +kernel
theorem dX4_debt_8 : decode cX4_debt 8 = .ok (.aload_n 0, 1) := by decide +kernel
theorem dX4_debt_9 : decode cX4_debt 9 = .ok (.iload_n 2, 1) := by decide +kernel
theorem dX4_debt_10 : decode cX4_debt 10 = .ok (.invokevirtual 68, 3) := by decide +kernel
theorem dX4_debt_13 : decode cX4_debt 13 = .ok (.ifCond .eq 17, 3) := by decide +kernel
theorem dX4_debt_16 : decode cX4_debt 16 = .ok (.aload_n 0, 1) := by decide +kernel
theorem dX4_debt_17 : decode cX4_debt 17 = .ok (.getfield 15, 3) := by decide +kernel
theorem dX4_debt_20 : decode cX4_debt 20 = .ok (.iload_n 1, 1) := by decide +kernel
theorem dX4_debt_21 : decode cX4_debt 21 = .ok (.bipush 8, 2) := by decide +kernel
theorem dX4_debt_23 : decode cX4_debt 23 = .ok (.imul, 1) := by decide +kernel
theorem dX4_debt_24 : decode cX4_debt 24 = .ok (.iload_n 2, 1) := by decide +kernel
theorem dX4_debt_25 : decode cX4_debt 25 = .ok (.iadd, 1) := by decide +kernel
theorem dX4_debt_26 : decode cX4_debt 26 = .ok (.iaload, 1) := by decide +kernel
theorem dX4_debt_27 : decode cX4_debt 27 = .ok (.goto 4, 3) := by decide +kernel
theorem dX4_debt_30 : decode cX4_debt 30 = .ok (.iconst 0, 1) := by decide +kernel
theorem dX4_debt_31 : decode cX4_debt 31 = .ok (.ireturn, 1) := by decide +kernel
theorem dX4_foldDebts_0 : decode cX4_foldDebts 0 = .ok (.lload_n 1, 1) := by decide +kernel
theorem dX4_foldDebts_1 : decode cX4_foldDebts 1 = .ok (.lstore_n 3, 1) := by decide +kernel
theorem dX4_foldDebts_2 : decode cX4_foldDebts 2 = .ok (.iconst 0, 1) := by decide +kernel
theorem dX4_foldDebts_3 : decode cX4_foldDebts 3 = .ok (.istore 5, 2) := by decide +kernel
theorem dX4_foldDebts_5 : decode cX4_foldDebts 5 = .ok (.iload 5, 2) := by decide +kernel
theorem dX4_foldDebts_7 : decode cX4_foldDebts 7 = .ok (.aload_n 0, 1) := by decide +kernel
theorem dX4_foldDebts_8 : decode cX4_foldDebts 8 = .ok (.getfield 39, 3) := by decide +kernel
theorem dX4_foldDebts_11 : decode cX4_foldDebts 11 = .ok (.if_icmp .ge 43, 3) := by decide +kernel
theorem dX4_foldDebts_14 : decode cX4_foldDebts 14 = .ok (.iconst 0, 1) := by decide +kernel
theorem dX4_foldDebts_15 : decode cX4_foldDebts 15 = .ok (.istore 6, 2) := by decide +kernel
theorem dX4_foldDebts_17 : decode cX4_foldDebts 17 = .ok (.iload 6, 2) := by decide +kernel
theorem dX4_foldDebts_19 : decode cX4_foldDebts 19 = .ok (.aload_n 0, 1) := by decide +kernel
theorem dX4_foldDebts_20 : decode cX4_foldDebts 20 = .ok (.getfield 39, 3) := by decide +kernel
theorem dX4_foldDebts_23 : decode cX4_foldDebts 23 = .ok (.if_icmp .ge 25, 3) := by decide +kernel
theorem dX4_foldDebts_26 : decode cX4_foldDebts 26 = .ok (.ldc2_w 154, 3) := by decide +kernel
theorem dX4_foldDebts_29 : decode cX4_foldDebts 29 = .ok (.lload_n 3, 1) := by decide +kernel
theorem dX4_foldDebts_30 : decode cX4_foldDebts 30 = .ok (.lmul, 1) := by decide +kernel
theorem dX4_foldDebts_31 : decode cX4_foldDebts 31 = .ok (.aload_n 0, 1) := by decide +kernel
theorem dX4_foldDebts_32 : decode cX4_foldDebts 32 = .ok (.iload 5, 2) := by decide +kernel
theorem dX4_foldDebts_34 : decode cX4_foldDebts 34 = .ok (.iload 6, 2) := by decide +kernel
theorem dX4_foldDebts_36 : decode cX4_foldDebts 36 = .ok (.invokevirtual 156, 3) := by decide +kernel
theorem dX4_foldDebts_39 : decode cX4_foldDebts 39 = .ok (.i2l, 1) := by decide +kernel
theorem dX4_foldDebts_40 : decode cX4_foldDebts 40 = .ok (.ladd, 1) := by decide +kernel
theorem dX4_foldDebts_41 : decode cX4_foldDebts 41 = .ok (.lstore_n 3, 1) := by decide +kernel
theorem dX4_foldDebts_42 : decode cX4_foldDebts 42 = .ok (.iinc 6 1, 3) := by decide +kernel
theorem dX4_foldDebts_45 : decode cX4_foldDebts 45 = .ok (.goto (-28), 3) := by decide +kernel
theorem dX4_foldDebts_48 : decode cX4_foldDebts 48 = .ok (.iinc 5 1, 3) := by decide +kernel
theorem dX4_foldDebts_51 : decode cX4_foldDebts 51 = .ok (.goto (-46), 3) := by decide +kernel
theorem dX4_foldDebts_54 : decode cX4_foldDebts 54 = .ok (.lload_n 3, 1) := by decide +kernel
theorem dX4_foldDebts_55 : decode cX4_foldDebts 55 = .ok (.lreturn, 1) := by decide +kernel
theorem dX5_init_0 : decode cX5_init 0 = .ok (.aload_n 0, 1) := by decide +kernel
theorem dX5_init_1 : decode cX5_init 1 = .ok (.invokespecial 3, 3) := by decide +kernel
theorem dX5_init_4 : decode cX5_init 4 = .ok (.aload_n 0, 1) := by decide +kernel
theorem dX5_init_5 : decode cX5_init 5 = .ok (.bipush 30, 2) := by decide +kernel
theorem dX5_init_7 : decode cX5_init 7 = .ok (.newarray .int, 2) := by decide +kernel
theorem dX5_init_9 : decode cX5_init 9 = .ok (.putfield 9, 3) := by decide +kernel
theorem dX5_init_12 : decode cX5_init 12 = .ok (.aload_n 0, 1) := by decide +kernel
theorem dX5_init_13 : decode cX5_init 13 = .ok (.bipush 30, 2) := by decide +kernel
theorem dX5_init_15 : decode cX5_init 15 = .ok (.newarray .int, 2) := by decide +kernel
theorem dX5_init_17 : decode cX5_init 17 = .ok (.putfield 15, 3) := by decide +kernel
theorem dX5_init_20 : decode cX5_init 20 = .ok (.aload_n 0, 1) := by decide +kernel
theorem dX5_init_21 : decode cX5_init 21 = .ok (.iconst 0, 1) := by decide +kernel
theorem dX5_init_22 : decode cX5_init 22 = .ok (.putfield 18, 3) := by decide +kernel
theorem dX5_init_25 : decode cX5_init 25 = .ok (.return_, 1) := by decide +kernel
theorem dX5_copyFrom_0 : decode cX5_copyFrom 0 = .ok (.aload_n 1, 1) := by decide +kernel
theorem dX5_copyFrom_1 : decode cX5_copyFrom 1 = .ok (.getfield 9, 3) := by decide +kernel
theorem dX5_copyFrom_4 : decode cX5_copyFrom 4 = .ok (.iconst 0, 1) := by decide +kernel
theorem dX5_copyFrom_5 : decode cX5_copyFrom 5 = .ok (.aload_n 0, 1) := by decide +kernel
theorem dX5_copyFrom_6 : decode cX5_copyFrom 6 = .ok (.getfield 9, 3) := by decide +kernel
theorem dX5_copyFrom_9 : decode cX5_copyFrom 9 = .ok (.iconst 0, 1) := by decide +kernel
theorem dX5_copyFrom_10 : decode cX5_copyFrom 10 = .ok (.bipush 30, 2) := by decide +kernel
theorem dX5_copyFrom_12 : decode cX5_copyFrom 12 = .ok (.invokestatic 22, 3) := by decide +kernel
theorem dX5_copyFrom_15 : decode cX5_copyFrom 15 = .ok (.aload_n 1, 1) := by decide +kernel
theorem dX5_copyFrom_16 : decode cX5_copyFrom 16 = .ok (.getfield 15, 3) := by decide +kernel
theorem dX5_copyFrom_19 : decode cX5_copyFrom 19 = .ok (.iconst 0, 1) := by decide +kernel
theorem dX5_copyFrom_20 : decode cX5_copyFrom 20 = .ok (.aload_n 0, 1) := by decide +kernel
theorem dX5_copyFrom_21 : decode cX5_copyFrom 21 = .ok (.getfield 15, 3) := by decide +kernel
theorem dX5_copyFrom_24 : decode cX5_copyFrom 24 = .ok (.iconst 0, 1) := by decide +kernel
theorem dX5_copyFrom_25 : decode cX5_copyFrom 25 = .ok (.bipush 30, 2) := by decide +kernel
theorem dX5_copyFrom_27 : decode cX5_copyFrom 27 = .ok (.invokestatic 22, 3) := by decide +kernel
theorem dX5_copyFrom_30 : decode cX5_copyFrom 30 = .ok (.aload_n 0, 1) := by decide +kernel
theorem dX5_copyFrom_31 : decode cX5_copyFrom 31 = .ok (.aload_n 1, 1) := by decide +kernel
theorem dX5_copyFrom_32 : decode cX5_copyFrom 32 = .ok (.getfield 18, 3) := by decide +kernel
theorem dX5_copyFrom_35 : decode cX5_copyFrom 35 = .ok (.putfield 18, 3) := by decide +kernel
theorem dX5_copyFrom_38 : decode cX5_copyFrom 38 = .ok (.return_, 1) := by decide +kernel
theorem dX5_size_0 : decode cX5_size 0 = .ok (.aload_n 0, 1) := by decide +kernel
theorem dX5_size_1 : decode cX5_size 1 = .ok (.getfield 18, 3) := by decide +kernel
theorem dX5_size_4 : decode cX5_size 4 = .ok (.ireturn, 1) := by decide +kernel
theorem dX5_indexOf_0 : decode cX5_indexOf 0 = .ok (.iconst 0, 1) := by decide +kernel
theorem dX5_indexOf_1 : decode cX5_indexOf 1 = .ok (.istore_n 2, 1) := by decide +kernel
theorem dX5_indexOf_2 : decode cX5_indexOf 2 = .ok (.iload_n 2, 1) := by decide +kernel
theorem dX5_indexOf_3 : decode cX5_indexOf 3 = .ok (.aload_n 0, 1) := by decide +kernel
theorem dX5_indexOf_4 : decode cX5_indexOf 4 = .ok (.getfield 18, 3) := by decide +kernel
theorem dX5_indexOf_7 : decode cX5_indexOf 7 = .ok (.if_icmp .ge 27, 3) := by decide +kernel
theorem dX5_indexOf_10 : decode cX5_indexOf 10 = .ok (.iload_n 2, 1) := by decide +kernel
theorem dX5_indexOf_11 : decode cX5_indexOf 11 = .ok (.bipush 30, 2) := by decide +kernel
theorem dX5_indexOf_13 : decode cX5_indexOf 13 = .ok (.if_icmp .ge 21, 3) := by decide +kernel
theorem dX5_indexOf_16 : decode cX5_indexOf 16 = .ok (.aload_n 0, 1) := by decide +kernel
theorem dX5_indexOf_17 : decode cX5_indexOf 17 = .ok (.getfield 9, 3) := by decide +kernel
theorem dX5_indexOf_20 : decode cX5_indexOf 20 = .ok (.iload_n 2, 1) := by decide +kernel
theorem dX5_indexOf_21 : decode cX5_indexOf 21 = .ok (.iaload, 1) := by decide +kernel
theorem dX5_indexOf_22 : decode cX5_indexOf 22 = .ok (.iload_n 1, 1) := by decide +kernel
theorem dX5_indexOf_23 : decode cX5_indexOf 23 = .ok (.if_icmp .ne 5, 3) := by decide +kernel
theorem dX5_indexOf_26 : decode cX5_indexOf 26 = .ok (.iload_n 2, 1) := by decide +kernel
theorem dX5_indexOf_27 : decode cX5_indexOf 27 = .ok (.ireturn, 1) := by decide +kernel
theorem dX5_indexOf_28 : decode cX5_indexOf 28 = .ok (.iinc 2 1, 3) := by decide +kernel
theorem dX5_indexOf_31 : decode cX5_indexOf 31 = .ok (.goto (-29), 3) := by decide +kernel
theorem dX5_indexOf_34 : decode cX5_indexOf 34 = .ok (.bipush (-9), 2) := by decide +kernel
theorem dX5_indexOf_36 : decode cX5_indexOf 36 = .ok (.ireturn, 1) := by decide +kernel
theorem dX5_switchOf_0 : decode cX5_switchOf 0 = .ok (.aload_n 0, 1) := by decide +kernel
theorem dX5_switchOf_1 : decode cX5_switchOf 1 = .ok (.iload_n 1, 1) := by decide +kernel
theorem dX5_switchOf_2 : decode cX5_switchOf 2 = .ok (.invokevirtual 28, 3) := by decide +kernel
theorem dX5_switchOf_5 : decode cX5_switchOf 5 = .ok (.istore_n 2, 1) := by decide +kernel
theorem dX5_switchOf_6 : decode cX5_switchOf 6 = .ok (.iload_n 2, 1) := by decide +kernel
theorem dX5_switchOf_7 : decode cX5_switchOf 7 = .ok (.ifCond .lt 12, 3) := by decide +kernel
theorem dX5_switchOf_10 : decode cX5_switchOf 10 = .ok (.aload_n 0, 1) := by decide +kernel
theorem dX5_switchOf_11 : decode cX5_switchOf 11 = .ok (.getfield 15, 3) := by decide +kernel
theorem dX5_switchOf_14 : decode cX5_switchOf 14 = .ok (.iload_n 2, 1) := by decide +kernel
theorem dX5_switchOf_15 : decode cX5_switchOf 15 = .ok (.iaload, 1) := by decide +kernel
theorem dX5_switchOf_16 : decode cX5_switchOf 16 = .ok (.goto 5, 3) := by decide +kernel
theorem dX5_switchOf_19 : decode cX5_switchOf 19 = .ok (.bipush (-9), 2) := by decide +kernel
theorem dX5_switchOf_21 : decode cX5_switchOf 21 = .ok (.ireturn, 1) := by decide +kernel
theorem dX5_put_0 : decode cX5_put 0 = .ok (.aload_n 0, 1) := by decide +kernel
theorem dX5_put_1 : decode cX5_put 1 = .ok (.iload_n 1, 1) := by decide +kernel
theorem dX5_put_2 : decode cX5_put 2 = .ok (.invokevirtual 28, 3) := by decide +kernel
theorem dX5_put_5 : decode cX5_put 5 = .ok (.istore_n 3, 1) := by decide +kernel
theorem dX5_put_6 : decode cX5_put 6 = .ok (.iload_n 3, 1) := by decide +kernel
theorem dX5_put_7 : decode cX5_put 7 = .ok (.ifCond .lt 21, 3) := by decide +kernel
theorem dX5_put_10 : decode cX5_put 10 = .ok (.aload_n 0, 1) := by decide +kernel
theorem dX5_put_11 : decode cX5_put 11 = .ok (.getfield 15, 3) := by decide +kernel
theorem dX5_put_14 : decode cX5_put 14 = .ok (.iload_n 3, 1) := by decide +kernel
theorem dX5_put_15 : decode cX5_put 15 = .ok (.iaload, 1) := by decide +kernel
theorem dX5_put_16 : decode cX5_put 16 = .ok (.istore 4, 2) := by decide +kernel
theorem dX5_put_18 : decode cX5_put 18 = .ok (.aload_n 0, 1) := by decide +kernel
theorem dX5_put_19 : decode cX5_put 19 = .ok (.getfield 15, 3) := by decide +kernel
theorem dX5_put_22 : decode cX5_put 22 = .ok (.iload_n 3, 1) := by decide +kernel
theorem dX5_put_23 : decode cX5_put 23 = .ok (.iload_n 2, 1) := by decide +kernel
theorem dX5_put_24 : decode cX5_put 24 = .ok (.iastore, 1) := by decide +kernel
theorem dX5_put_25 : decode cX5_put 25 = .ok (.iload 4, 2) := by decide +kernel
theorem dX5_put_27 : decode cX5_put 27 = .ok (.ireturn, 1) := by decide +kernel
theorem dX5_put_28 : decode cX5_put 28 = .ok (.aload_n 0, 1) := by decide +kernel
theorem dX5_put_29 : decode cX5_put 29 = .ok (.getfield 18, 3) := by decide +kernel
theorem dX5_put_32 : decode cX5_put 32 = .ok (.bipush 30, 2) := by decide +kernel
theorem dX5_put_34 : decode cX5_put 34 = .ok (.if_icmp .ge 33, 3) := by decide +kernel
theorem dX5_put_37 : decode cX5_put 37 = .ok (.aload_n 0, 1) := by decide +kernel
theorem dX5_put_38 : decode cX5_put 38 = .ok (.getfield 9, 3) := by decide +kernel
theorem dX5_put_41 : decode cX5_put 41 = .ok (.aload_n 0, 1) := by decide +kernel
theorem dX5_put_42 : decode cX5_put 42 = .ok (.getfield 18, 3) := by decide +kernel
theorem dX5_put_45 : decode cX5_put 45 = .ok (.iload_n 1, 1) := by decide +kernel
theorem dX5_put_46 : decode cX5_put 46 = .ok (.iastore, 1) := by decide +kernel
theorem dX5_put_47 : decode cX5_put 47 = .ok (.aload_n 0, 1) := by decide +kernel
theorem dX5_put_48 : decode cX5_put 48 = .ok (.getfield 15, 3) := by decide +kernel
theorem dX5_put_51 : decode cX5_put 51 = .ok (.aload_n 0, 1) := by decide +kernel
theorem dX5_put_52 : decode cX5_put 52 = .ok (.getfield 18, 3) := by decide +kernel
theorem dX5_put_55 : decode cX5_put 55 = .ok (.iload_n 2, 1) := by decide +kernel
theorem dX5_put_56 : decode cX5_put 56 = .ok (.iastore, 1) := by decide +kernel
theorem dX5_put_57 : decode cX5_put 57 = .ok (.aload_n 0, 1) := by decide +kernel
theorem dX5_put_58 : decode cX5_put 58 = .ok (.dup, 1) := by decide +kernel
theorem dX5_put_59 : decode cX5_put 59 = .ok (.getfield 18, 3) := by decide +kernel
theorem dX5_put_62 : decode cX5_put 62 = .ok (.iconst 1, 1) := by decide +kernel
theorem dX5_put_63 : decode cX5_put 63 = .ok (.iadd, 1) := by decide +kernel
theorem dX5_put_64 : decode cX5_put 64 = .ok (.putfield 18, 3) := by decide +kernel
theorem dX5_put_67 : decode cX5_put 67 = .ok (.bipush (-9), 2) := by decide +kernel
theorem dX5_put_69 : decode cX5_put 69 = .ok (.ireturn, 1) := by decide +kernel
theorem dX5_remove_0 : decode cX5_remove 0 = .ok (.aload_n 0, 1) := by decide +kernel
theorem dX5_remove_1 : decode cX5_remove 1 = .ok (.iload_n 1, 1) := by decide +kernel
theorem dX5_remove_2 : decode cX5_remove 2 = .ok (.invokevirtual 28, 3) := by decide +kernel
theorem dX5_remove_5 : decode cX5_remove 5 = .ok (.istore_n 2, 1) := by decide +kernel
theorem dX5_remove_6 : decode cX5_remove 6 = .ok (.iload_n 2, 1) := by decide +kernel
theorem dX5_remove_7 : decode cX5_remove 7 = .ok (.ifCond .ge 6, 3) := by decide +kernel
theorem dX5_remove_10 : decode cX5_remove 10 = .ok (.bipush (-9), 2) := by decide +kernel
theorem dX5_remove_12 : decode cX5_remove 12 = .ok (.ireturn, 1) := by decide +kernel
theorem dX5_remove_13 : decode cX5_remove 13 = .ok (.aload_n 0, 1) := by decide +kernel
theorem dX5_remove_14 : decode cX5_remove 14 = .ok (.getfield 15, 3) := by decide +kernel
theorem dX5_remove_17 : decode cX5_remove 17 = .ok (.iload_n 2, 1) := by decide +kernel
theorem dX5_remove_18 : decode cX5_remove 18 = .ok (.iaload, 1) := by decide +kernel
theorem dX5_remove_19 : decode cX5_remove 19 = .ok (.istore_n 3, 1) := by decide +kernel
theorem dX5_remove_20 : decode cX5_remove 20 = .ok (.aload_n 0, 1) := by decide +kernel
theorem dX5_remove_21 : decode cX5_remove 21 = .ok (.dup, 1) := by decide +kernel
theorem dX5_remove_22 : decode cX5_remove 22 = .ok (.getfield 18, 3) := by decide +kernel
theorem dX5_remove_25 : decode cX5_remove 25 = .ok (.iconst 1, 1) := by decide +kernel
theorem dX5_remove_26 : decode cX5_remove 26 = .ok (.isub, 1) := by decide +kernel
theorem dX5_remove_27 : decode cX5_remove 27 = .ok (.putfield 18, 3) := by decide +kernel
theorem dX5_remove_30 : decode cX5_remove 30 = .ok (.aload_n 0, 1) := by decide +kernel
theorem dX5_remove_31 : decode cX5_remove 31 = .ok (.getfield 9, 3) := by decide +kernel
theorem dX5_remove_34 : decode cX5_remove 34 = .ok (.iload_n 2, 1) := by decide +kernel
theorem dX5_remove_35 : decode cX5_remove 35 = .ok (.aload_n 0, 1) := by decide +kernel
theorem dX5_remove_36 : decode cX5_remove 36 = .ok (.getfield 9, 3) := by decide +kernel
theorem dX5_remove_39 : decode cX5_remove 39 = .ok (.aload_n 0, 1) := by decide +kernel
theorem dX5_remove_40 : decode cX5_remove 40 = .ok (.getfield 18, 3) := by decide +kernel
theorem dX5_remove_43 : decode cX5_remove 43 = .ok (.iaload, 1) := by decide +kernel
theorem dX5_remove_44 : decode cX5_remove 44 = .ok (.iastore, 1) := by decide +kernel
theorem dX5_remove_45 : decode cX5_remove 45 = .ok (.aload_n 0, 1) := by decide +kernel
theorem dX5_remove_46 : decode cX5_remove 46 = .ok (.getfield 15, 3) := by decide +kernel
theorem dX5_remove_49 : decode cX5_remove 49 = .ok (.iload_n 2, 1) := by decide +kernel
theorem dX5_remove_50 : decode cX5_remove 50 = .ok (.aload_n 0, 1) := by decide +kernel
theorem dX5_remove_51 : decode cX5_remove 51 = .ok (.getfield 15, 3) := by decide +kernel
theorem dX5_remove_54 : decode cX5_remove 54 = .ok (.aload_n 0, 1) := by decide +kernel
theorem dX5_remove_55 : decode cX5_remove 55 = .ok (.getfield 18, 3) := by decide +kernel
theorem dX5_remove_58 : decode cX5_remove 58 = .ok (.iaload, 1) := by decide +kernel
theorem dX5_remove_59 : decode cX5_remove 59 = .ok (.iastore, 1) := by decide +kernel
theorem dX5_remove_60 : decode cX5_remove 60 = .ok (.iload_n 3, 1) := by decide +kernel
theorem dX5_remove_61 : decode cX5_remove 61 = .ok (.ireturn, 1) := by decide +kernel
theorem dX6_init_0 : decode cX6_init 0 = .ok (.aload_n 0, 1) := by decide +kernel
theorem dX6_init_1 : decode cX6_init 1 = .ok (.invokespecial 3, 3) := by decide +kernel
theorem dX6_init_4 : decode cX6_init 4 = .ok (.aload_n 0, 1) := by decide +kernel
theorem dX6_init_5 : decode cX6_init 5 = .ok (.bipush 40, 2) := by decide +kernel
theorem dX6_init_7 : decode cX6_init 7 = .ok (.newarray .int, 2) := by decide +kernel
theorem dX6_init_9 : decode cX6_init 9 = .ok (.putfield 9, 3) := by decide +kernel
theorem dX6_init_12 : decode cX6_init 12 = .ok (.aload_n 0, 1) := by decide +kernel
theorem dX6_init_13 : decode cX6_init 13 = .ok (.bipush 40, 2) := by decide +kernel
theorem dX6_init_15 : decode cX6_init 15 = .ok (.newarray .int, 2) := by decide +kernel
theorem dX6_init_17 : decode cX6_init 17 = .ok (.putfield 15, 3) := by decide +kernel
theorem dX6_init_20 : decode cX6_init 20 = .ok (.aload_n 0, 1) := by decide +kernel
theorem dX6_init_21 : decode cX6_init 21 = .ok (.bipush 40, 2) := by decide +kernel
theorem dX6_init_23 : decode cX6_init 23 = .ok (.newarray .int, 2) := by decide +kernel
theorem dX6_init_25 : decode cX6_init 25 = .ok (.putfield 18, 3) := by decide +kernel
theorem dX6_init_28 : decode cX6_init 28 = .ok (.aload_n 0, 1) := by decide +kernel
theorem dX6_init_29 : decode cX6_init 29 = .ok (.bipush 120, 2) := by decide +kernel
theorem dX6_init_31 : decode cX6_init 31 = .ok (.newarray .int, 2) := by decide +kernel
theorem dX6_init_33 : decode cX6_init 33 = .ok (.putfield 21, 3) := by decide +kernel
theorem dX6_init_36 : decode cX6_init 36 = .ok (.aload_n 0, 1) := by decide +kernel
theorem dX6_init_37 : decode cX6_init 37 = .ok (.bipush 40, 2) := by decide +kernel
theorem dX6_init_39 : decode cX6_init 39 = .ok (.newarray .int, 2) := by decide +kernel
theorem dX6_init_41 : decode cX6_init 41 = .ok (.putfield 24, 3) := by decide +kernel
theorem dX6_init_44 : decode cX6_init 44 = .ok (.aload_n 0, 1) := by decide +kernel
theorem dX6_init_45 : decode cX6_init 45 = .ok (.bipush 40, 2) := by decide +kernel
theorem dX6_init_47 : decode cX6_init 47 = .ok (.newarray .int, 2) := by decide +kernel
theorem dX6_init_49 : decode cX6_init 49 = .ok (.putfield 27, 3) := by decide +kernel
theorem dX6_init_52 : decode cX6_init 52 = .ok (.aload_n 0, 1) := by decide +kernel
theorem dX6_init_53 : decode cX6_init 53 = .ok (.iconst 0, 1) := by decide +kernel
theorem dX6_init_54 : decode cX6_init 54 = .ok (.putfield 30, 3) := by decide +kernel
theorem dX6_init_57 : decode cX6_init 57 = .ok (.return_, 1) := by decide +kernel
theorem dX6_copyFrom_0 : decode cX6_copyFrom 0 = .ok (.aload_n 1, 1) := by decide +kernel
theorem dX6_copyFrom_1 : decode cX6_copyFrom 1 = .ok (.getfield 9, 3) := by decide +kernel
theorem dX6_copyFrom_4 : decode cX6_copyFrom 4 = .ok (.iconst 0, 1) := by decide +kernel
theorem dX6_copyFrom_5 : decode cX6_copyFrom 5 = .ok (.aload_n 0, 1) := by decide +kernel
theorem dX6_copyFrom_6 : decode cX6_copyFrom 6 = .ok (.getfield 9, 3) := by decide +kernel
theorem dX6_copyFrom_9 : decode cX6_copyFrom 9 = .ok (.iconst 0, 1) := by decide +kernel
theorem dX6_copyFrom_10 : decode cX6_copyFrom 10 = .ok (.bipush 40, 2) := by decide +kernel
theorem dX6_copyFrom_12 : decode cX6_copyFrom 12 = .ok (.invokestatic 34, 3) := by decide +kernel
theorem dX6_copyFrom_15 : decode cX6_copyFrom 15 = .ok (.aload_n 1, 1) := by decide +kernel
theorem dX6_copyFrom_16 : decode cX6_copyFrom 16 = .ok (.getfield 15, 3) := by decide +kernel
theorem dX6_copyFrom_19 : decode cX6_copyFrom 19 = .ok (.iconst 0, 1) := by decide +kernel
theorem dX6_copyFrom_20 : decode cX6_copyFrom 20 = .ok (.aload_n 0, 1) := by decide +kernel
theorem dX6_copyFrom_21 : decode cX6_copyFrom 21 = .ok (.getfield 15, 3) := by decide +kernel
theorem dX6_copyFrom_24 : decode cX6_copyFrom 24 = .ok (.iconst 0, 1) := by decide +kernel
theorem dX6_copyFrom_25 : decode cX6_copyFrom 25 = .ok (.bipush 40, 2) := by decide +kernel
theorem dX6_copyFrom_27 : decode cX6_copyFrom 27 = .ok (.invokestatic 34, 3) := by decide +kernel
theorem dX6_copyFrom_30 : decode cX6_copyFrom 30 = .ok (.aload_n 1, 1) := by decide +kernel
theorem dX6_copyFrom_31 : decode cX6_copyFrom 31 = .ok (.getfield 18, 3) := by decide +kernel
theorem dX6_copyFrom_34 : decode cX6_copyFrom 34 = .ok (.iconst 0, 1) := by decide +kernel
theorem dX6_copyFrom_35 : decode cX6_copyFrom 35 = .ok (.aload_n 0, 1) := by decide +kernel
theorem dX6_copyFrom_36 : decode cX6_copyFrom 36 = .ok (.getfield 18, 3) := by decide +kernel
theorem dX6_copyFrom_39 : decode cX6_copyFrom 39 = .ok (.iconst 0, 1) := by decide +kernel
theorem dX6_copyFrom_40 : decode cX6_copyFrom 40 = .ok (.bipush 40, 2) := by decide +kernel
theorem dX6_copyFrom_42 : decode cX6_copyFrom 42 = .ok (.invokestatic 34, 3) := by decide +kernel
theorem dX6_copyFrom_45 : decode cX6_copyFrom 45 = .ok (.aload_n 1, 1) := by decide +kernel
theorem dX6_copyFrom_46 : decode cX6_copyFrom 46 = .ok (.getfield 21, 3) := by decide +kernel
theorem dX6_copyFrom_49 : decode cX6_copyFrom 49 = .ok (.iconst 0, 1) := by decide +kernel
theorem dX6_copyFrom_50 : decode cX6_copyFrom 50 = .ok (.aload_n 0, 1) := by decide +kernel
theorem dX6_copyFrom_51 : decode cX6_copyFrom 51 = .ok (.getfield 21, 3) := by decide +kernel
theorem dX6_copyFrom_54 : decode cX6_copyFrom 54 = .ok (.iconst 0, 1) := by decide +kernel
theorem dX6_copyFrom_55 : decode cX6_copyFrom 55 = .ok (.bipush 120, 2) := by decide +kernel
theorem dX6_copyFrom_57 : decode cX6_copyFrom 57 = .ok (.invokestatic 34, 3) := by decide +kernel
theorem dX6_copyFrom_60 : decode cX6_copyFrom 60 = .ok (.aload_n 1, 1) := by decide +kernel
theorem dX6_copyFrom_61 : decode cX6_copyFrom 61 = .ok (.getfield 24, 3) := by decide +kernel
theorem dX6_copyFrom_64 : decode cX6_copyFrom 64 = .ok (.iconst 0, 1) := by decide +kernel
theorem dX6_copyFrom_65 : decode cX6_copyFrom 65 = .ok (.aload_n 0, 1) := by decide +kernel
theorem dX6_copyFrom_66 : decode cX6_copyFrom 66 = .ok (.getfield 24, 3) := by decide +kernel
theorem dX6_copyFrom_69 : decode cX6_copyFrom 69 = .ok (.iconst 0, 1) := by decide +kernel
theorem dX6_copyFrom_70 : decode cX6_copyFrom 70 = .ok (.bipush 40, 2) := by decide +kernel
theorem dX6_copyFrom_72 : decode cX6_copyFrom 72 = .ok (.invokestatic 34, 3) := by decide +kernel
theorem dX6_copyFrom_75 : decode cX6_copyFrom 75 = .ok (.aload_n 1, 1) := by decide +kernel
theorem dX6_copyFrom_76 : decode cX6_copyFrom 76 = .ok (.getfield 27, 3) := by decide +kernel
theorem dX6_copyFrom_79 : decode cX6_copyFrom 79 = .ok (.iconst 0, 1) := by decide +kernel
theorem dX6_copyFrom_80 : decode cX6_copyFrom 80 = .ok (.aload_n 0, 1) := by decide +kernel
theorem dX6_copyFrom_81 : decode cX6_copyFrom 81 = .ok (.getfield 27, 3) := by decide +kernel
theorem dX6_copyFrom_84 : decode cX6_copyFrom 84 = .ok (.iconst 0, 1) := by decide +kernel
theorem dX6_copyFrom_85 : decode cX6_copyFrom 85 = .ok (.bipush 40, 2) := by decide +kernel
theorem dX6_copyFrom_87 : decode cX6_copyFrom 87 = .ok (.invokestatic 34, 3) := by decide +kernel
theorem dX6_copyFrom_90 : decode cX6_copyFrom 90 = .ok (.aload_n 0, 1) := by decide +kernel
theorem dX6_copyFrom_91 : decode cX6_copyFrom 91 = .ok (.aload_n 1, 1) := by decide +kernel
theorem dX6_copyFrom_92 : decode cX6_copyFrom 92 = .ok (.getfield 30, 3) := by decide +kernel
theorem dX6_copyFrom_95 : decode cX6_copyFrom 95 = .ok (.putfield 30, 3) := by decide +kernel
theorem dX6_copyFrom_98 : decode cX6_copyFrom 98 = .ok (.return_, 1) := by decide +kernel
theorem dX6_size_0 : decode cX6_size 0 = .ok (.aload_n 0, 1) := by decide +kernel
theorem dX6_size_1 : decode cX6_size 1 = .ok (.getfield 30, 3) := by decide +kernel
theorem dX6_size_4 : decode cX6_size 4 = .ok (.ireturn, 1) := by decide +kernel
theorem dX6_has_0 : decode cX6_has 0 = .ok (.iload_n 1, 1) := by decide +kernel
theorem dX6_has_1 : decode cX6_has 1 = .ok (.ifCond .lt 21, 3) := by decide +kernel
theorem dX6_has_4 : decode cX6_has 4 = .ok (.iload_n 1, 1) := by decide +kernel
theorem dX6_has_5 : decode cX6_has 5 = .ok (.aload_n 0, 1) := by decide +kernel
theorem dX6_has_6 : decode cX6_has 6 = .ok (.getfield 30, 3) := by decide +kernel
theorem dX6_has_9 : decode cX6_has 9 = .ok (.if_icmp .ge 13, 3) := by decide +kernel
theorem dX6_has_12 : decode cX6_has 12 = .ok (.iload_n 1, 1) := by decide +kernel
theorem dX6_has_13 : decode cX6_has 13 = .ok (.bipush 40, 2) := by decide +kernel
theorem dX6_has_15 : decode cX6_has 15 = .ok (.if_icmp .ge 7, 3) := by decide +kernel
theorem dX6_has_18 : decode cX6_has 18 = .ok (.iconst 1, 1) := by decide +kernel
theorem dX6_has_19 : decode cX6_has 19 = .ok (.goto 4, 3) := by decide +kernel
theorem dX6_has_22 : decode cX6_has 22 = .ok (.iconst 0, 1) := by decide +kernel
theorem dX6_has_23 : decode cX6_has 23 = .ok (.ireturn, 1) := by decide +kernel
theorem dX6_put_0 : decode cX6_put 0 = .ok (.aload_n 0, 1) := by decide +kernel
theorem dX6_put_1 : decode cX6_put 1 = .ok (.getfield 30, 3) := by decide +kernel
theorem dX6_put_4 : decode cX6_put 4 = .ok (.istore 6, 2) := by decide +kernel
theorem dX6_put_6 : decode cX6_put 6 = .ok (.iload 6, 2) := by decide +kernel
theorem dX6_put_8 : decode cX6_put 8 = .ok (.bipush 40, 2) := by decide +kernel
theorem dX6_put_10 : decode cX6_put 10 = .ok (.if_icmp .lt 6, 3) := by decide +kernel
theorem dX6_put_13 : decode cX6_put 13 = .ok (.bipush (-3), 2) := by decide +kernel
theorem dX6_put_15 : decode cX6_put 15 = .ok (.ireturn, 1) := by decide +kernel
theorem dX6_put_16 : decode cX6_put 16 = .ok (.aload_n 0, 1) := by decide +kernel
theorem dX6_put_17 : decode cX6_put 17 = .ok (.getfield 9, 3) := by decide +kernel
theorem dX6_put_20 : decode cX6_put 20 = .ok (.iload 6, 2) := by decide +kernel
theorem dX6_put_22 : decode cX6_put 22 = .ok (.iload_n 1, 1) := by decide +kernel
theorem dX6_put_23 : decode cX6_put 23 = .ok (.iastore, 1) := by decide +kernel
theorem dX6_put_24 : decode cX6_put 24 = .ok (.aload_n 0, 1) := by decide +kernel
theorem dX6_put_25 : decode cX6_put 25 = .ok (.getfield 15, 3) := by decide +kernel
theorem dX6_put_28 : decode cX6_put 28 = .ok (.iload 6, 2) := by decide +kernel
theorem dX6_put_30 : decode cX6_put 30 = .ok (.iload_n 2, 1) := by decide +kernel
theorem dX6_put_31 : decode cX6_put 31 = .ok (.iastore, 1) := by decide +kernel
theorem dX6_put_32 : decode cX6_put 32 = .ok (.aload_n 0, 1) := by decide +kernel
theorem dX6_put_33 : decode cX6_put 33 = .ok (.getfield 18, 3) := by decide +kernel
theorem dX6_put_36 : decode cX6_put 36 = .ok (.iload 6, 2) := by decide +kernel
theorem dX6_put_38 : decode cX6_put 38 = .ok (.iload_n 3, 1) := by decide +kernel
theorem dX6_put_39 : decode cX6_put 39 = .ok (.iastore, 1) := by decide +kernel
theorem dX6_put_40 : decode cX6_put 40 = .ok (.iconst 0, 1) := by decide +kernel
theorem dX6_put_41 : decode cX6_put 41 = .ok (.istore 7, 2) := by decide +kernel
theorem dX6_put_43 : decode cX6_put 43 = .ok (.iload 7, 2) := by decide +kernel
theorem dX6_put_45 : decode cX6_put 45 = .ok (.iconst 3, 1) := by decide +kernel
theorem dX6_put_46 : decode cX6_put 46 = .ok (.if_icmp .ge 23, 3) := by decide +kernel
theorem dX6_put_49 : decode cX6_put 49 = .ok (.aload_n 0, 1) := by decide +kernel
theorem dX6_put_50 : decode cX6_put 50 = .ok (.getfield 21, 3) := by decide +kernel
theorem dX6_put_53 : decode cX6_put 53 = .ok (.iload 6, 2) := by decide +kernel
theorem dX6_put_55 : decode cX6_put 55 = .ok (.iconst 3, 1) := by decide +kernel
theorem dX6_put_56 : decode cX6_put 56 = .ok (.imul, 1) := by decide +kernel
theorem dX6_put_57 : decode cX6_put 57 = .ok (.iload 7, 2) := by decide +kernel
theorem dX6_put_59 : decode cX6_put 59 = .ok (.iadd, 1) := by decide +kernel
theorem dX6_put_60 : decode cX6_put 60 = .ok (.iload 4, 2) := by decide +kernel
theorem dX6_put_62 : decode cX6_put 62 = .ok (.iastore, 1) := by decide +kernel
theorem dX6_put_63 : decode cX6_put 63 = .ok (.iinc 7 1, 3) := by decide +kernel
theorem dX6_put_66 : decode cX6_put 66 = .ok (.goto (-23), 3) := by decide +kernel
theorem dX6_put_69 : decode cX6_put 69 = .ok (.aload_n 0, 1) := by decide +kernel
theorem dX6_put_70 : decode cX6_put 70 = .ok (.getfield 24, 3) := by decide +kernel
theorem dX6_put_73 : decode cX6_put 73 = .ok (.iload 6, 2) := by decide +kernel
theorem dX6_put_75 : decode cX6_put 75 = .ok (.iload 5, 2) := by decide +kernel
theorem dX6_put_77 : decode cX6_put 77 = .ok (.iastore, 1) := by decide +kernel
theorem dX6_put_78 : decode cX6_put 78 = .ok (.aload_n 0, 1) := by decide +kernel
theorem dX6_put_79 : decode cX6_put 79 = .ok (.getfield 27, 3) := by decide +kernel
theorem dX6_put_82 : decode cX6_put 82 = .ok (.iload 6, 2) := by decide +kernel
theorem dX6_put_84 : decode cX6_put 84 = .ok (.iconst 0, 1) := by decide +kernel
theorem dX6_put_85 : decode cX6_put 85 = .ok (.iastore, 1) := by decide +kernel
theorem dX6_put_86 : decode cX6_put 86 = .ok (.aload_n 0, 1) := by decide +kernel
theorem dX6_put_87 : decode cX6_put 87 = .ok (.iload 6, 2) := by decide +kernel
theorem dX6_put_89 : decode cX6_put 89 = .ok (.iconst 1, 1) := by decide +kernel
theorem dX6_put_90 : decode cX6_put 90 = .ok (.iadd, 1) := by decide +kernel
theorem dX6_put_91 : decode cX6_put 91 = .ok (.putfield 30, 3) := by decide +kernel
theorem dX6_put_94 : decode cX6_put 94 = .ok (.iload 6, 2) := by decide +kernel
theorem dX6_put_96 : decode cX6_put 96 = .ok (.ireturn, 1) := by decide +kernel
theorem dX6_switchOf_0 : decode cX6_switchOf 0 = .ok (.aload_n 0, 1) := by decide +kernel
theorem dX6_switchOf_1 : decode cX6_switchOf 1 = .ok (.iload_n 1, 1) := by decide +kernel
theorem dX6_switchOf_2 : decode cX6_switchOf 2 = .ok (.invokevirtual 40, 3) := by decide +kernel
theorem dX6_switchOf_5 : decode cX6_switchOf 5 = .ok (.ifCond .eq 12, 3) := by decide +kernel
theorem dX6_switchOf_8 : decode cX6_switchOf 8 = .ok (.aload_n 0, 1) := by decide +kernel
theorem dX6_switchOf_9 : decode cX6_switchOf 9 = .ok (.getfield 9, 3) := by decide +kernel
theorem dX6_switchOf_12 : decode cX6_switchOf 12 = .ok (.iload_n 1, 1) := by decide +kernel
theorem dX6_switchOf_13 : decode cX6_switchOf 13 = .ok (.iaload, 1) := by decide +kernel
theorem dX6_switchOf_14 : decode cX6_switchOf 14 = .ok (.goto 5, 3) := by decide +kernel
theorem dX6_switchOf_17 : decode cX6_switchOf 17 = .ok (.bipush (-9), 2) := by decide +kernel
theorem dX6_switchOf_19 : decode cX6_switchOf 19 = .ok (.ireturn, 1) := by decide +kernel
theorem dX6_nextOf_0 : decode cX6_nextOf 0 = .ok (.aload_n 0, 1) := by decide +kernel
theorem dX6_nextOf_1 : decode cX6_nextOf 1 = .ok (.iload_n 1, 1) := by decide +kernel
theorem dX6_nextOf_2 : decode cX6_nextOf 2 = .ok (.invokevirtual 40, 3) := by decide +kernel
theorem dX6_nextOf_5 : decode cX6_nextOf 5 = .ok (.ifCond .eq 12, 3) := by decide +kernel
theorem dX6_nextOf_8 : decode cX6_nextOf 8 = .ok (.aload_n 0, 1) := by decide +kernel
theorem dX6_nextOf_9 : decode cX6_nextOf 9 = .ok (.getfield 18, 3) := by decide +kernel
theorem dX6_nextOf_12 : decode cX6_nextOf 12 = .ok (.iload_n 1, 1) := by decide +kernel
theorem dX6_nextOf_13 : decode cX6_nextOf 13 = .ok (.iaload, 1) := by decide +kernel
theorem dX6_nextOf_14 : decode cX6_nextOf 14 = .ok (.goto 5, 3) := by decide +kernel
theorem dX6_nextOf_17 : decode cX6_nextOf 17 = .ok (.bipush (-9), 2) := by decide +kernel
theorem dX6_nextOf_19 : decode cX6_nextOf 19 = .ok (.ireturn, 1) := by decide +kernel
theorem dX6_serves_0 : decode cX6_serves 0 = .ok (.aload_n 0, 1) := by decide +kernel
theorem dX6_serves_1 : decode cX6_serves 1 = .ok (.iload_n 1, 1) := by decide +kernel
theorem dX6_serves_2 : decode cX6_serves 2 = .ok (.invokevirtual 40, 3) := by decide +kernel
theorem dX6_serves_5 : decode cX6_serves 5 = .ok (.ifCond .eq 22, 3) := by decide +kernel
theorem dX6_serves_8 : decode cX6_serves 8 = .ok (.aload_n 0, 1) := by decide +kernel
theorem dX6_serves_9 : decode cX6_serves 9 = .ok (.getfield 9, 3) := by decide +kernel
theorem dX6_serves_12 : decode cX6_serves 12 = .ok (.iload_n 1, 1) := by decide +kernel
theorem dX6_serves_13 : decode cX6_serves 13 = .ok (.iaload, 1) := by decide +kernel
theorem dX6_serves_14 : decode cX6_serves 14 = .ok (.aload_n 0, 1) := by decide +kernel
theorem dX6_serves_15 : decode cX6_serves 15 = .ok (.getfield 18, 3) := by decide +kernel
theorem dX6_serves_18 : decode cX6_serves 18 = .ok (.iload_n 1, 1) := by decide +kernel
theorem dX6_serves_19 : decode cX6_serves 19 = .ok (.iaload, 1) := by decide +kernel
theorem dX6_serves_20 : decode cX6_serves 20 = .ok (.if_icmp .ne 7, 3) := by decide +kernel
theorem dX6_serves_23 : decode cX6_serves 23 = .ok (.iconst 1, 1) := by decide +kernel
theorem dX6_serves_24 : decode cX6_serves 24 = .ok (.goto 4, 3) := by decide +kernel
theorem dX6_serves_27 : decode cX6_serves 27 = .ok (.iconst 0, 1) := by decide +kernel
theorem dX6_serves_28 : decode cX6_serves 28 = .ok (.ireturn, 1) := by decide +kernel
theorem dX6_costOf_0 : decode cX6_costOf 0 = .ok (.iload_n 1, 1) := by decide +kernel
theorem dX6_costOf_1 : decode cX6_costOf 1 = .ok (.iconst 3, 1) := by decide +kernel
theorem dX6_costOf_2 : decode cX6_costOf 2 = .ok (.imul, 1) := by decide +kernel
theorem dX6_costOf_3 : decode cX6_costOf 3 = .ok (.iload_n 2, 1) := by decide +kernel
theorem dX6_costOf_4 : decode cX6_costOf 4 = .ok (.iadd, 1) := by decide +kernel
theorem dX6_costOf_5 : decode cX6_costOf 5 = .ok (.istore_n 3, 1) := by decide +kernel
theorem dX6_costOf_6 : decode cX6_costOf 6 = .ok (.iload_n 3, 1) := by decide +kernel
theorem dX6_costOf_7 : decode cX6_costOf 7 = .ok (.ifCond .lt 18, 3) := by decide +kernel
theorem dX6_costOf_10 : decode cX6_costOf 10 = .ok (.iload_n 3, 1) := by decide +kernel
theorem dX6_costOf_11 : decode cX6_costOf 11 = .ok (.bipush 120, 2) := by decide +kernel
theorem dX6_costOf_13 : decode cX6_costOf 13 = .ok (.if_icmp .ge 12, 3) := by decide +kernel
theorem dX6_costOf_16 : decode cX6_costOf 16 = .ok (.aload_n 0, 1) := by decide +kernel
theorem dX6_costOf_17 : decode cX6_costOf 17 = .ok (.getfield 21, 3) := by decide +kernel
theorem dX6_costOf_20 : decode cX6_costOf 20 = .ok (.iload_n 3, 1) := by decide +kernel
theorem dX6_costOf_21 : decode cX6_costOf 21 = .ok (.iaload, 1) := by decide +kernel
theorem dX6_costOf_22 : decode cX6_costOf 22 = .ok (.goto 4, 3) := by decide +kernel
theorem dX6_costOf_25 : decode cX6_costOf 25 = .ok (.iconst 0, 1) := by decide +kernel
theorem dX6_costOf_26 : decode cX6_costOf 26 = .ok (.ireturn, 1) := by decide +kernel
theorem dX6_changeCost_0 : decode cX6_changeCost 0 = .ok (.aload_n 0, 1) := by decide +kernel
theorem dX6_changeCost_1 : decode cX6_changeCost 1 = .ok (.iload_n 1, 1) := by decide +kernel
theorem dX6_changeCost_2 : decode cX6_changeCost 2 = .ok (.invokevirtual 40, 3) := by decide +kernel
theorem dX6_changeCost_5 : decode cX6_changeCost 5 = .ok (.ifCond .eq 12, 3) := by decide +kernel
theorem dX6_changeCost_8 : decode cX6_changeCost 8 = .ok (.iload_n 2, 1) := by decide +kernel
theorem dX6_changeCost_9 : decode cX6_changeCost 9 = .ok (.iconst 0, 1) := by decide +kernel
theorem dX6_changeCost_10 : decode cX6_changeCost 10 = .ok (.iconst 2, 1) := by decide +kernel
theorem dX6_changeCost_11 : decode cX6_changeCost 11 = .ok (.invokestatic 44, 3) := by decide +kernel
theorem dX6_changeCost_14 : decode cX6_changeCost 14 = .ok (.ifCond .ne 5, 3) := by decide +kernel
theorem dX6_changeCost_17 : decode cX6_changeCost 17 = .ok (.iconst (-1), 1) := by decide +kernel
theorem dX6_changeCost_18 : decode cX6_changeCost 18 = .ok (.ireturn, 1) := by decide +kernel
theorem dX6_changeCost_19 : decode cX6_changeCost 19 = .ok (.aload_n 0, 1) := by decide +kernel
theorem dX6_changeCost_20 : decode cX6_changeCost 20 = .ok (.getfield 21, 3) := by decide +kernel
theorem dX6_changeCost_23 : decode cX6_changeCost 23 = .ok (.iload_n 1, 1) := by decide +kernel
theorem dX6_changeCost_24 : decode cX6_changeCost 24 = .ok (.iconst 3, 1) := by decide +kernel
theorem dX6_changeCost_25 : decode cX6_changeCost 25 = .ok (.imul, 1) := by decide +kernel
theorem dX6_changeCost_26 : decode cX6_changeCost 26 = .ok (.iload_n 2, 1) := by decide +kernel
theorem dX6_changeCost_27 : decode cX6_changeCost 27 = .ok (.iadd, 1) := by decide +kernel
theorem dX6_changeCost_28 : decode cX6_changeCost 28 = .ok (.iaload, 1) := by decide +kernel
theorem dX6_changeCost_29 : decode cX6_changeCost 29 = .ok (.istore 4, 2) := by decide +kernel
theorem dX6_changeCost_31 : decode cX6_changeCost 31 = .ok (.aload_n 0, 1) := by decide +kernel
theorem dX6_changeCost_32 : decode cX6_changeCost 32 = .ok (.getfield 21, 3) := by decide +kernel
theorem dX6_changeCost_35 : decode cX6_changeCost 35 = .ok (.iload_n 1, 1) := by decide +kernel
theorem dX6_changeCost_36 : decode cX6_changeCost 36 = .ok (.iconst 3, 1) := by decide +kernel
theorem dX6_changeCost_37 : decode cX6_changeCost 37 = .ok (.imul, 1) := by decide +kernel
theorem dX6_changeCost_38 : decode cX6_changeCost 38 = .ok (.iload_n 2, 1) := by decide +kernel
theorem dX6_changeCost_39 : decode cX6_changeCost 39 = .ok (.iadd, 1) := by decide +kernel
theorem dX6_changeCost_40 : decode cX6_changeCost 40 = .ok (.iload_n 3, 1) := by decide +kernel
theorem dX6_changeCost_41 : decode cX6_changeCost 41 = .ok (.iastore, 1) := by decide +kernel
theorem dX6_changeCost_42 : decode cX6_changeCost 42 = .ok (.iload 4, 2) := by decide +kernel
theorem dX6_changeCost_44 : decode cX6_changeCost 44 = .ok (.ireturn, 1) := by decide +kernel
theorem dX6_hasFreeLine_0 : decode cX6_hasFreeLine 0 = .ok (.aload_n 0, 1) := by decide +kernel
theorem dX6_hasFreeLine_1 : decode cX6_hasFreeLine 1 = .ok (.iload_n 1, 1) := by decide +kernel
theorem dX6_hasFreeLine_2 : decode cX6_hasFreeLine 2 = .ok (.invokevirtual 40, 3) := by decide +kernel
theorem dX6_hasFreeLine_5 : decode cX6_hasFreeLine 5 = .ok (.ifCond .eq 22, 3) := by decide +kernel
theorem dX6_hasFreeLine_8 : decode cX6_hasFreeLine 8 = .ok (.aload_n 0, 1) := by decide +kernel
theorem dX6_hasFreeLine_9 : decode cX6_hasFreeLine 9 = .ok (.getfield 27, 3) := by decide +kernel
theorem dX6_hasFreeLine_12 : decode cX6_hasFreeLine 12 = .ok (.iload_n 1, 1) := by decide +kernel
theorem dX6_hasFreeLine_13 : decode cX6_hasFreeLine 13 = .ok (.iaload, 1) := by decide +kernel
theorem dX6_hasFreeLine_14 : decode cX6_hasFreeLine 14 = .ok (.aload_n 0, 1) := by decide +kernel
theorem dX6_hasFreeLine_15 : decode cX6_hasFreeLine 15 = .ok (.getfield 24, 3) := by decide +kernel
theorem dX6_hasFreeLine_18 : decode cX6_hasFreeLine 18 = .ok (.iload_n 1, 1) := by decide +kernel
theorem dX6_hasFreeLine_19 : decode cX6_hasFreeLine 19 = .ok (.iaload, 1) := by decide +kernel
theorem dX6_hasFreeLine_20 : decode cX6_hasFreeLine 20 = .ok (.if_icmp .ge 7, 3) := by decide +kernel
theorem dX6_hasFreeLine_23 : decode cX6_hasFreeLine 23 = .ok (.iconst 1, 1) := by decide +kernel
theorem dX6_hasFreeLine_24 : decode cX6_hasFreeLine 24 = .ok (.goto 4, 3) := by decide +kernel
theorem dX6_hasFreeLine_27 : decode cX6_hasFreeLine 27 = .ok (.iconst 0, 1) := by decide +kernel
theorem dX6_hasFreeLine_28 : decode cX6_hasFreeLine 28 = .ok (.ireturn, 1) := by decide +kernel
theorem dX6_occupy_0 : decode cX6_occupy 0 = .ok (.aload_n 0, 1) := by decide +kernel
theorem dX6_occupy_1 : decode cX6_occupy 1 = .ok (.iload_n 1, 1) := by decide +kernel
theorem dX6_occupy_2 : decode cX6_occupy 2 = .ok (.invokevirtual 40, 3) := by decide +kernel
theorem dX6_occupy_5 : decode cX6_occupy 5 = .ok (.ifCond .eq 21, 3) := by decide +kernel
theorem dX6_occupy_8 : decode cX6_occupy 8 = .ok (.aload_n 0, 1) := by decide +kernel
theorem dX6_occupy_9 : decode cX6_occupy 9 = .ok (.iload_n 1, 1) := by decide +kernel
theorem dX6_occupy_10 : decode cX6_occupy 10 = .ok (.invokevirtual 48, 3) := by decide +kernel
theorem dX6_occupy_13 : decode cX6_occupy 13 = .ok (.ifCond .ne 13, 3) := by decide +kernel
theorem dX6_occupy_16 : decode cX6_occupy 16 = .ok (.aload_n 0, 1) := by decide +kernel
theorem dX6_occupy_17 : decode cX6_occupy 17 = .ok (.getfield 27, 3) := by decide +kernel
theorem dX6_occupy_20 : decode cX6_occupy 20 = .ok (.iload_n 1, 1) := by decide +kernel
theorem dX6_occupy_21 : decode cX6_occupy 21 = .ok (.dup2, 1) := by decide +kernel
theorem dX6_occupy_22 : decode cX6_occupy 22 = .ok (.iaload, 1) := by decide +kernel
theorem dX6_occupy_23 : decode cX6_occupy 23 = .ok (.iconst 1, 1) := by decide +kernel
theorem dX6_occupy_24 : decode cX6_occupy 24 = .ok (.iadd, 1) := by decide +kernel
theorem dX6_occupy_25 : decode cX6_occupy 25 = .ok (.iastore, 1) := by decide +kernel
theorem dX6_occupy_26 : decode cX6_occupy 26 = .ok (.return_, 1) := by decide +kernel
theorem dX6_release_0 : decode cX6_release 0 = .ok (.aload_n 0, 1) := by decide +kernel
theorem dX6_release_1 : decode cX6_release 1 = .ok (.iload_n 1, 1) := by decide +kernel
theorem dX6_release_2 : decode cX6_release 2 = .ok (.invokevirtual 40, 3) := by decide +kernel
theorem dX6_release_5 : decode cX6_release 5 = .ok (.ifCond .eq 21, 3) := by decide +kernel
theorem dX6_release_8 : decode cX6_release 8 = .ok (.aload_n 0, 1) := by decide +kernel
theorem dX6_release_9 : decode cX6_release 9 = .ok (.iload_n 1, 1) := by decide +kernel
theorem dX6_release_10 : decode cX6_release 10 = .ok (.invokevirtual 48, 3) := by decide +kernel
theorem dX6_release_13 : decode cX6_release 13 = .ok (.ifCond .ne 13, 3) := by decide +kernel
theorem dX6_release_16 : decode cX6_release 16 = .ok (.aload_n 0, 1) := by decide +kernel
theorem dX6_release_17 : decode cX6_release 17 = .ok (.getfield 27, 3) := by decide +kernel
theorem dX6_release_20 : decode cX6_release 20 = .ok (.iload_n 1, 1) := by decide +kernel
theorem dX6_release_21 : decode cX6_release 21 = .ok (.dup2, 1) := by decide +kernel
theorem dX6_release_22 : decode cX6_release 22 = .ok (.iaload, 1) := by decide +kernel
theorem dX6_release_23 : decode cX6_release 23 = .ok (.iconst 1, 1) := by decide +kernel
theorem dX6_release_24 : decode cX6_release 24 = .ok (.isub, 1) := by decide +kernel
theorem dX6_release_25 : decode cX6_release 25 = .ok (.iastore, 1) := by decide +kernel
theorem dX6_release_26 : decode cX6_release 26 = .ok (.return_, 1) := by decide +kernel
theorem dX6_numberOf_0 : decode cX6_numberOf 0 = .ok (.aload_n 0, 1) := by decide +kernel
theorem dX6_numberOf_1 : decode cX6_numberOf 1 = .ok (.iload_n 1, 1) := by decide +kernel
theorem dX6_numberOf_2 : decode cX6_numberOf 2 = .ok (.invokevirtual 40, 3) := by decide +kernel
theorem dX6_numberOf_5 : decode cX6_numberOf 5 = .ok (.ifCond .ne 5, 3) := by decide +kernel
theorem dX6_numberOf_8 : decode cX6_numberOf 8 = .ok (.iconst (-1), 1) := by decide +kernel
theorem dX6_numberOf_9 : decode cX6_numberOf 9 = .ok (.ireturn, 1) := by decide +kernel
theorem dX6_numberOf_10 : decode cX6_numberOf 10 = .ok (.iload_n 2, 1) := by decide +kernel
theorem dX6_numberOf_11 : decode cX6_numberOf 11 = .ok (.tableswitch 89 0 7 #[45, 52, 59, 66, 66, 66, 75, 82], 45) := by decide +kernel
theorem dX6_numberOf_56 : decode cX6_numberOf 56 = .ok (.aload_n 0, 1) := by decide +kernel
theorem dX6_numberOf_57 : decode cX6_numberOf 57 = .ok (.getfield 9, 3) := by decide +kernel
theorem dX6_numberOf_60 : decode cX6_numberOf 60 = .ok (.iload_n 1, 1) := by decide +kernel
theorem dX6_numberOf_61 : decode cX6_numberOf 61 = .ok (.iaload, 1) := by decide +kernel
theorem dX6_numberOf_62 : decode cX6_numberOf 62 = .ok (.ireturn, 1) := by decide +kernel
theorem dX6_numberOf_63 : decode cX6_numberOf 63 = .ok (.aload_n 0, 1) := by decide +kernel
theorem dX6_numberOf_64 : decode cX6_numberOf 64 = .ok (.getfield 15, 3) := by decide +kernel
theorem dX6_numberOf_67 : decode cX6_numberOf 67 = .ok (.iload_n 1, 1) := by decide +kernel
theorem dX6_numberOf_68 : decode cX6_numberOf 68 = .ok (.iaload, 1) := by decide +kernel
theorem dX6_numberOf_69 : decode cX6_numberOf 69 = .ok (.ireturn, 1) := by decide +kernel
theorem dX6_numberOf_70 : decode cX6_numberOf 70 = .ok (.aload_n 0, 1) := by decide +kernel
theorem dX6_numberOf_71 : decode cX6_numberOf 71 = .ok (.getfield 18, 3) := by decide +kernel
theorem dX6_numberOf_74 : decode cX6_numberOf 74 = .ok (.iload_n 1, 1) := by decide +kernel
theorem dX6_numberOf_75 : decode cX6_numberOf 75 = .ok (.iaload, 1) := by decide +kernel
theorem dX6_numberOf_76 : decode cX6_numberOf 76 = .ok (.ireturn, 1) := by decide +kernel
theorem dX6_numberOf_77 : decode cX6_numberOf 77 = .ok (.aload_n 0, 1) := by decide +kernel
theorem dX6_numberOf_78 : decode cX6_numberOf 78 = .ok (.iload_n 1, 1) := by decide +kernel
theorem dX6_numberOf_79 : decode cX6_numberOf 79 = .ok (.iload_n 2, 1) := by decide +kernel
theorem dX6_numberOf_80 : decode cX6_numberOf 80 = .ok (.iconst 3, 1) := by decide +kernel
theorem dX6_numberOf_81 : decode cX6_numberOf 81 = .ok (.isub, 1) := by decide +kernel
theorem dX6_numberOf_82 : decode cX6_numberOf 82 = .ok (.invokevirtual 51, 3) := by decide +kernel
theorem dX6_numberOf_85 : decode cX6_numberOf 85 = .ok (.ireturn, 1) := by decide +kernel
theorem dX6_numberOf_86 : decode cX6_numberOf 86 = .ok (.aload_n 0, 1) := by decide +kernel
theorem dX6_numberOf_87 : decode cX6_numberOf 87 = .ok (.getfield 24, 3) := by decide +kernel
theorem dX6_numberOf_90 : decode cX6_numberOf 90 = .ok (.iload_n 1, 1) := by decide +kernel
theorem dX6_numberOf_91 : decode cX6_numberOf 91 = .ok (.iaload, 1) := by decide +kernel
theorem dX6_numberOf_92 : decode cX6_numberOf 92 = .ok (.ireturn, 1) := by decide +kernel
theorem dX6_numberOf_93 : decode cX6_numberOf 93 = .ok (.aload_n 0, 1) := by decide +kernel
theorem dX6_numberOf_94 : decode cX6_numberOf 94 = .ok (.getfield 27, 3) := by decide +kernel
theorem dX6_numberOf_97 : decode cX6_numberOf 97 = .ok (.iload_n 1, 1) := by decide +kernel
theorem dX6_numberOf_98 : decode cX6_numberOf 98 = .ok (.iaload, 1) := by decide +kernel
theorem dX6_numberOf_99 : decode cX6_numberOf 99 = .ok (.ireturn, 1) := by decide +kernel
theorem dX6_numberOf_100 : decode cX6_numberOf 100 = .ok (.iconst (-1), 1) := by decide +kernel
theorem dX6_numberOf_101 : decode cX6_numberOf 101 = .ok (.ireturn, 1) := by decide +kernel
theorem dX6_longestPrefix_0 : decode cX6_longestPrefix 0 = .ok (.bipush (-9), 2) := by decide +kernel
theorem dX6_longestPrefix_2 : decode cX6_longestPrefix 2 = .ok (.istore 4, 2) := by decide +kernel
theorem dX6_longestPrefix_4 : decode cX6_longestPrefix 4 = .ok (.iconst 0, 1) := by decide +kernel
theorem dX6_longestPrefix_5 : decode cX6_longestPrefix 5 = .ok (.istore 5, 2) := by decide +kernel
theorem dX6_longestPrefix_7 : decode cX6_longestPrefix 7 = .ok (.iload 5, 2) := by decide +kernel
theorem dX6_longestPrefix_9 : decode cX6_longestPrefix 9 = .ok (.aload_n 0, 1) := by decide +kernel
theorem dX6_longestPrefix_10 : decode cX6_longestPrefix 10 = .ok (.getfield 30, 3) := by decide +kernel
theorem dX6_longestPrefix_13 : decode cX6_longestPrefix 13 = .ok (.if_icmp .ge 56, 3) := by decide +kernel
theorem dX6_longestPrefix_16 : decode cX6_longestPrefix 16 = .ok (.iload 5, 2) := by decide +kernel
theorem dX6_longestPrefix_18 : decode cX6_longestPrefix 18 = .ok (.bipush 40, 2) := by decide +kernel
theorem dX6_longestPrefix_20 : decode cX6_longestPrefix 20 = .ok (.if_icmp .ge 49, 3) := by decide +kernel
theorem dX6_longestPrefix_23 : decode cX6_longestPrefix 23 = .ok (.aload_n 0, 1) := by decide +kernel
theorem dX6_longestPrefix_24 : decode cX6_longestPrefix 24 = .ok (.getfield 15, 3) := by decide +kernel
theorem dX6_longestPrefix_27 : decode cX6_longestPrefix 27 = .ok (.iload 5, 2) := by decide +kernel
theorem dX6_longestPrefix_29 : decode cX6_longestPrefix 29 = .ok (.iaload, 1) := by decide +kernel
theorem dX6_longestPrefix_30 : decode cX6_longestPrefix 30 = .ok (.istore 6, 2) := by decide +kernel
theorem dX6_longestPrefix_32 : decode cX6_longestPrefix 32 = .ok (.aload_n 0, 1) := by decide +kernel
theorem dX6_longestPrefix_33 : decode cX6_longestPrefix 33 = .ok (.getfield 9, 3) := by decide +kernel
theorem dX6_longestPrefix_36 : decode cX6_longestPrefix 36 = .ok (.iload 5, 2) := by decide +kernel
theorem dX6_longestPrefix_38 : decode cX6_longestPrefix 38 = .ok (.iaload, 1) := by decide +kernel
theorem dX6_longestPrefix_39 : decode cX6_longestPrefix 39 = .ok (.iload_n 1, 1) := by decide +kernel
theorem dX6_longestPrefix_40 : decode cX6_longestPrefix 40 = .ok (.if_icmp .ne 23, 3) := by decide +kernel
theorem dX6_longestPrefix_43 : decode cX6_longestPrefix 43 = .ok (.iload 6, 2) := by decide +kernel
theorem dX6_longestPrefix_45 : decode cX6_longestPrefix 45 = .ok (.iload 4, 2) := by decide +kernel
theorem dX6_longestPrefix_47 : decode cX6_longestPrefix 47 = .ok (.if_icmp .le 16, 3) := by decide +kernel
theorem dX6_longestPrefix_50 : decode cX6_longestPrefix 50 = .ok (.lload_n 2, 1) := by decide +kernel
theorem dX6_longestPrefix_51 : decode cX6_longestPrefix 51 = .ok (.iload 6, 2) := by decide +kernel
theorem dX6_longestPrefix_53 : decode cX6_longestPrefix 53 = .ok (.invokestatic 55, 3) := by decide +kernel
theorem dX6_longestPrefix_56 : decode cX6_longestPrefix 56 = .ok (.ifCond .eq 7, 3) := by decide +kernel
theorem dX6_longestPrefix_59 : decode cX6_longestPrefix 59 = .ok (.iload 6, 2) := by decide +kernel
theorem dX6_longestPrefix_61 : decode cX6_longestPrefix 61 = .ok (.istore 4, 2) := by decide +kernel
theorem dX6_longestPrefix_63 : decode cX6_longestPrefix 63 = .ok (.iinc 5 1, 3) := by decide +kernel
theorem dX6_longestPrefix_66 : decode cX6_longestPrefix 66 = .ok (.goto (-59), 3) := by decide +kernel
theorem dX6_longestPrefix_69 : decode cX6_longestPrefix 69 = .ok (.iload 4, 2) := by decide +kernel
theorem dX6_longestPrefix_71 : decode cX6_longestPrefix 71 = .ok (.ireturn, 1) := by decide +kernel
theorem dX6_belongs_0 : decode cX6_belongs 0 = .ok (.aload_n 0, 1) := by decide +kernel
theorem dX6_belongs_1 : decode cX6_belongs 1 = .ok (.iload_n 1, 1) := by decide +kernel
theorem dX6_belongs_2 : decode cX6_belongs 2 = .ok (.invokevirtual 40, 3) := by decide +kernel
theorem dX6_belongs_5 : decode cX6_belongs 5 = .ok (.ifCond .eq 27, 3) := by decide +kernel
theorem dX6_belongs_8 : decode cX6_belongs 8 = .ok (.aload_n 0, 1) := by decide +kernel
theorem dX6_belongs_9 : decode cX6_belongs 9 = .ok (.getfield 9, 3) := by decide +kernel
theorem dX6_belongs_12 : decode cX6_belongs 12 = .ok (.iload_n 1, 1) := by decide +kernel
theorem dX6_belongs_13 : decode cX6_belongs 13 = .ok (.iaload, 1) := by decide +kernel
theorem dX6_belongs_14 : decode cX6_belongs 14 = .ok (.iload_n 2, 1) := by decide +kernel
theorem dX6_belongs_15 : decode cX6_belongs 15 = .ok (.if_icmp .ne 17, 3) := by decide +kernel
theorem dX6_belongs_18 : decode cX6_belongs 18 = .ok (.aload_n 0, 1) := by decide +kernel
theorem dX6_belongs_19 : decode cX6_belongs 19 = .ok (.getfield 15, 3) := by decide +kernel
theorem dX6_belongs_22 : decode cX6_belongs 22 = .ok (.iload_n 1, 1) := by decide +kernel
theorem dX6_belongs_23 : decode cX6_belongs 23 = .ok (.iaload, 1) := by decide +kernel
theorem dX6_belongs_24 : decode cX6_belongs 24 = .ok (.iload_n 3, 1) := by decide +kernel
theorem dX6_belongs_25 : decode cX6_belongs 25 = .ok (.if_icmp .ne 7, 3) := by decide +kernel
theorem dX6_belongs_28 : decode cX6_belongs 28 = .ok (.iconst 1, 1) := by decide +kernel
theorem dX6_belongs_29 : decode cX6_belongs 29 = .ok (.goto 4, 3) := by decide +kernel
theorem dX6_belongs_32 : decode cX6_belongs 32 = .ok (.iconst 0, 1) := by decide +kernel
theorem dX6_belongs_33 : decode cX6_belongs 33 = .ok (.ireturn, 1) := by decide +kernel
theorem dX6_choiceAfter_0 : decode cX6_choiceAfter 0 = .ok (.bipush (-9), 2) := by decide +kernel
theorem dX6_choiceAfter_2 : decode cX6_choiceAfter 2 = .ok (.istore 5, 2) := by decide +kernel
theorem dX6_choiceAfter_4 : decode cX6_choiceAfter 4 = .ok (.iconst 0, 1) := by decide +kernel
theorem dX6_choiceAfter_5 : decode cX6_choiceAfter 5 = .ok (.istore 6, 2) := by decide +kernel
theorem dX6_choiceAfter_7 : decode cX6_choiceAfter 7 = .ok (.iload 6, 2) := by decide +kernel
theorem dX6_choiceAfter_9 : decode cX6_choiceAfter 9 = .ok (.aload_n 0, 1) := by decide +kernel
theorem dX6_choiceAfter_10 : decode cX6_choiceAfter 10 = .ok (.getfield 30, 3) := by decide +kernel
theorem dX6_choiceAfter_13 : decode cX6_choiceAfter 13 = .ok (.if_icmp .ge 62, 3) := by decide +kernel
theorem dX6_choiceAfter_16 : decode cX6_choiceAfter 16 = .ok (.aload_n 0, 1) := by decide +kernel
theorem dX6_choiceAfter_17 : decode cX6_choiceAfter 17 = .ok (.iload 6, 2) := by decide +kernel
theorem dX6_choiceAfter_19 : decode cX6_choiceAfter 19 = .ok (.iload_n 2, 1) := by decide +kernel
theorem dX6_choiceAfter_20 : decode cX6_choiceAfter 20 = .ok (.iload_n 3, 1) := by decide +kernel
theorem dX6_choiceAfter_21 : decode cX6_choiceAfter 21 = .ok (.invokevirtual 59, 3) := by decide +kernel
theorem dX6_choiceAfter_24 : decode cX6_choiceAfter 24 = .ok (.ifCond .eq 45, 3) := by decide +kernel
theorem dX6_choiceAfter_27 : decode cX6_choiceAfter 27 = .ok (.iload_n 1, 1) := by decide +kernel
theorem dX6_choiceAfter_28 : decode cX6_choiceAfter 28 = .ok (.bipush (-9), 2) := by decide +kernel
theorem dX6_choiceAfter_30 : decode cX6_choiceAfter 30 = .ok (.if_icmp .eq 15, 3) := by decide +kernel
theorem dX6_choiceAfter_33 : decode cX6_choiceAfter 33 = .ok (.aload_n 0, 1) := by decide +kernel
theorem dX6_choiceAfter_34 : decode cX6_choiceAfter 34 = .ok (.iload_n 1, 1) := by decide +kernel
theorem dX6_choiceAfter_35 : decode cX6_choiceAfter 35 = .ok (.iload 6, 2) := by decide +kernel
theorem dX6_choiceAfter_37 : decode cX6_choiceAfter 37 = .ok (.iload 4, 2) := by decide +kernel
theorem dX6_choiceAfter_39 : decode cX6_choiceAfter 39 = .ok (.invokevirtual 62, 3) := by decide +kernel
theorem dX6_choiceAfter_42 : decode cX6_choiceAfter 42 = .ok (.ifCond .eq 27, 3) := by decide +kernel
theorem dX6_choiceAfter_45 : decode cX6_choiceAfter 45 = .ok (.iload 5, 2) := by decide +kernel
theorem dX6_choiceAfter_47 : decode cX6_choiceAfter 47 = .ok (.bipush (-9), 2) := by decide +kernel
theorem dX6_choiceAfter_49 : decode cX6_choiceAfter 49 = .ok (.if_icmp .eq 16, 3) := by decide +kernel
theorem dX6_choiceAfter_52 : decode cX6_choiceAfter 52 = .ok (.aload_n 0, 1) := by decide +kernel
theorem dX6_choiceAfter_53 : decode cX6_choiceAfter 53 = .ok (.iload 6, 2) := by decide +kernel
theorem dX6_choiceAfter_55 : decode cX6_choiceAfter 55 = .ok (.iload 5, 2) := by decide +kernel
theorem dX6_choiceAfter_57 : decode cX6_choiceAfter 57 = .ok (.iload 4, 2) := by decide +kernel
theorem dX6_choiceAfter_59 : decode cX6_choiceAfter 59 = .ok (.invokevirtual 62, 3) := by decide +kernel
theorem dX6_choiceAfter_62 : decode cX6_choiceAfter 62 = .ok (.ifCond .eq 7, 3) := by decide +kernel
theorem dX6_choiceAfter_65 : decode cX6_choiceAfter 65 = .ok (.iload 6, 2) := by decide +kernel
theorem dX6_choiceAfter_67 : decode cX6_choiceAfter 67 = .ok (.istore 5, 2) := by decide +kernel
theorem dX6_choiceAfter_69 : decode cX6_choiceAfter 69 = .ok (.iinc 6 1, 3) := by decide +kernel
theorem dX6_choiceAfter_72 : decode cX6_choiceAfter 72 = .ok (.goto (-65), 3) := by decide +kernel
theorem dX6_choiceAfter_75 : decode cX6_choiceAfter 75 = .ok (.iload 5, 2) := by decide +kernel
theorem dX6_choiceAfter_77 : decode cX6_choiceAfter 77 = .ok (.ireturn, 1) := by decide +kernel
theorem dX6_isBefore_0 : decode cX6_isBefore 0 = .ok (.aload_n 0, 1) := by decide +kernel
theorem dX6_isBefore_1 : decode cX6_isBefore 1 = .ok (.iload_n 1, 1) := by decide +kernel
theorem dX6_isBefore_2 : decode cX6_isBefore 2 = .ok (.iload_n 3, 1) := by decide +kernel
theorem dX6_isBefore_3 : decode cX6_isBefore 3 = .ok (.invokevirtual 51, 3) := by decide +kernel
theorem dX6_isBefore_6 : decode cX6_isBefore 6 = .ok (.istore 4, 2) := by decide +kernel
theorem dX6_isBefore_8 : decode cX6_isBefore 8 = .ok (.aload_n 0, 1) := by decide +kernel
theorem dX6_isBefore_9 : decode cX6_isBefore 9 = .ok (.iload_n 2, 1) := by decide +kernel
theorem dX6_isBefore_10 : decode cX6_isBefore 10 = .ok (.iload_n 3, 1) := by decide +kernel
theorem dX6_isBefore_11 : decode cX6_isBefore 11 = .ok (.invokevirtual 51, 3) := by decide +kernel
theorem dX6_isBefore_14 : decode cX6_isBefore 14 = .ok (.istore 5, 2) := by decide +kernel
theorem dX6_isBefore_16 : decode cX6_isBefore 16 = .ok (.iload 4, 2) := by decide +kernel
theorem dX6_isBefore_18 : decode cX6_isBefore 18 = .ok (.iload 5, 2) := by decide +kernel
theorem dX6_isBefore_20 : decode cX6_isBefore 20 = .ok (.if_icmp .lt 15, 3) := by decide +kernel
theorem dX6_isBefore_23 : decode cX6_isBefore 23 = .ok (.iload 4, 2) := by decide +kernel
theorem dX6_isBefore_25 : decode cX6_isBefore 25 = .ok (.iload 5, 2) := by decide +kernel
theorem dX6_isBefore_27 : decode cX6_isBefore 27 = .ok (.if_icmp .ne 12, 3) := by decide +kernel
theorem dX6_isBefore_30 : decode cX6_isBefore 30 = .ok (.iload_n 1, 1) := by decide +kernel
theorem dX6_isBefore_31 : decode cX6_isBefore 31 = .ok (.iload_n 2, 1) := by decide +kernel
theorem dX6_isBefore_32 : decode cX6_isBefore 32 = .ok (.if_icmp .ge 7, 3) := by decide +kernel
theorem dX6_isBefore_35 : decode cX6_isBefore 35 = .ok (.iconst 1, 1) := by decide +kernel
theorem dX6_isBefore_36 : decode cX6_isBefore 36 = .ok (.goto 4, 3) := by decide +kernel
theorem dX6_isBefore_39 : decode cX6_isBefore 39 = .ok (.iconst 0, 1) := by decide +kernel
theorem dX6_isBefore_40 : decode cX6_isBefore 40 = .ok (.ireturn, 1) := by decide +kernel
theorem dX6_fold_0 : decode cX6_fold 0 = .ok (.lload_n 1, 1) := by decide +kernel
theorem dX6_fold_1 : decode cX6_fold 1 = .ok (.lstore_n 3, 1) := by decide +kernel
theorem dX6_fold_2 : decode cX6_fold 2 = .ok (.iconst 0, 1) := by decide +kernel
theorem dX6_fold_3 : decode cX6_fold 3 = .ok (.istore 5, 2) := by decide +kernel
theorem dX6_fold_5 : decode cX6_fold 5 = .ok (.iload 5, 2) := by decide +kernel
theorem dX6_fold_7 : decode cX6_fold 7 = .ok (.aload_n 0, 1) := by decide +kernel
theorem dX6_fold_8 : decode cX6_fold 8 = .ok (.getfield 30, 3) := by decide +kernel
theorem dX6_fold_11 : decode cX6_fold 11 = .ok (.if_icmp .ge 41, 3) := by decide +kernel
theorem dX6_fold_14 : decode cX6_fold 14 = .ok (.iconst 0, 1) := by decide +kernel
theorem dX6_fold_15 : decode cX6_fold 15 = .ok (.istore 6, 2) := by decide +kernel
theorem dX6_fold_17 : decode cX6_fold 17 = .ok (.iload 6, 2) := by decide +kernel
theorem dX6_fold_19 : decode cX6_fold 19 = .ok (.bipush 8, 2) := by decide +kernel
theorem dX6_fold_21 : decode cX6_fold 21 = .ok (.if_icmp .ge 25, 3) := by decide +kernel
theorem dX6_fold_24 : decode cX6_fold 24 = .ok (.ldc2_w 65, 3) := by decide +kernel
theorem dX6_fold_27 : decode cX6_fold 27 = .ok (.lload_n 3, 1) := by decide +kernel
theorem dX6_fold_28 : decode cX6_fold 28 = .ok (.lmul, 1) := by decide +kernel
theorem dX6_fold_29 : decode cX6_fold 29 = .ok (.aload_n 0, 1) := by decide +kernel
theorem dX6_fold_30 : decode cX6_fold 30 = .ok (.iload 5, 2) := by decide +kernel
theorem dX6_fold_32 : decode cX6_fold 32 = .ok (.iload 6, 2) := by decide +kernel
theorem dX6_fold_34 : decode cX6_fold 34 = .ok (.invokevirtual 67, 3) := by decide +kernel
theorem dX6_fold_37 : decode cX6_fold 37 = .ok (.i2l, 1) := by decide +kernel
theorem dX6_fold_38 : decode cX6_fold 38 = .ok (.ladd, 1) := by decide +kernel
theorem dX6_fold_39 : decode cX6_fold 39 = .ok (.lstore_n 3, 1) := by decide +kernel
theorem dX6_fold_40 : decode cX6_fold 40 = .ok (.iinc 6 1, 3) := by decide +kernel
theorem dX6_fold_43 : decode cX6_fold 43 = .ok (.goto (-26), 3) := by decide +kernel
theorem dX6_fold_46 : decode cX6_fold 46 = .ok (.iinc 5 1, 3) := by decide +kernel
theorem dX6_fold_49 : decode cX6_fold 49 = .ok (.goto (-44), 3) := by decide +kernel
theorem dX6_fold_52 : decode cX6_fold 52 = .ok (.lload_n 3, 1) := by decide +kernel
theorem dX6_fold_53 : decode cX6_fold 53 = .ok (.lreturn, 1) := by decide +kernel
theorem dX7_init_0 : decode cX7_init 0 = .ok (.aload_n 0, 1) := by decide +kernel
theorem dX7_init_1 : decode cX7_init 1 = .ok (.invokespecial 3, 3) := by decide +kernel
theorem dX7_init_4 : decode cX7_init 4 = .ok (.aload_n 0, 1) := by decide +kernel
theorem dX7_init_5 : decode cX7_init 5 = .ok (.bipush 80, 2) := by decide +kernel
theorem dX7_init_7 : decode cX7_init 7 = .ok (.newarray .char, 2) := by decide +kernel
theorem dX7_init_9 : decode cX7_init 9 = .ok (.putfield 9, 3) := by decide +kernel
theorem dX7_init_12 : decode cX7_init 12 = .ok (.aload_n 0, 1) := by decide +kernel
theorem dX7_init_13 : decode cX7_init 13 = .ok (.bipush 27, 2) := by decide +kernel
theorem dX7_init_15 : decode cX7_init 15 = .ok (.newarray .char, 2) := by decide +kernel
theorem dX7_init_17 : decode cX7_init 17 = .ok (.putfield 15, 3) := by decide +kernel
theorem dX7_init_20 : decode cX7_init 20 = .ok (.aload_n 0, 1) := by decide +kernel
theorem dX7_init_21 : decode cX7_init 21 = .ok (.bipush 27, 2) := by decide +kernel
theorem dX7_init_23 : decode cX7_init 23 = .ok (.newarray .int, 2) := by decide +kernel
theorem dX7_init_25 : decode cX7_init 25 = .ok (.putfield 18, 3) := by decide +kernel
theorem dX7_init_28 : decode cX7_init 28 = .ok (.aload_n 0, 1) := by decide +kernel
theorem dX7_init_29 : decode cX7_init 29 = .ok (.bipush 27, 2) := by decide +kernel
theorem dX7_init_31 : decode cX7_init 31 = .ok (.newarray .int, 2) := by decide +kernel
theorem dX7_init_33 : decode cX7_init 33 = .ok (.putfield 22, 3) := by decide +kernel
theorem dX7_init_36 : decode cX7_init 36 = .ok (.aload_n 0, 1) := by decide +kernel
theorem dX7_init_37 : decode cX7_init 37 = .ok (.bipush 27, 2) := by decide +kernel
theorem dX7_init_39 : decode cX7_init 39 = .ok (.newarray .int, 2) := by decide +kernel
theorem dX7_init_41 : decode cX7_init 41 = .ok (.putfield 25, 3) := by decide +kernel
theorem dX7_init_44 : decode cX7_init 44 = .ok (.aload_n 0, 1) := by decide +kernel
theorem dX7_init_45 : decode cX7_init 45 = .ok (.bipush 27, 2) := by decide +kernel
theorem dX7_init_47 : decode cX7_init 47 = .ok (.newarray .int, 2) := by decide +kernel
theorem dX7_init_49 : decode cX7_init 49 = .ok (.putfield 28, 3) := by decide +kernel
theorem dX7_init_52 : decode cX7_init 52 = .ok (.aload_n 0, 1) := by decide +kernel
theorem dX7_init_53 : decode cX7_init 53 = .ok (.bipush 27, 2) := by decide +kernel
theorem dX7_init_55 : decode cX7_init 55 = .ok (.newarray .int, 2) := by decide +kernel
theorem dX7_init_57 : decode cX7_init 57 = .ok (.putfield 31, 3) := by decide +kernel
theorem dX7_init_60 : decode cX7_init 60 = .ok (.aload_n 0, 1) := by decide +kernel
theorem dX7_init_61 : decode cX7_init 61 = .ok (.iconst 0, 1) := by decide +kernel
theorem dX7_init_62 : decode cX7_init 62 = .ok (.putfield 34, 3) := by decide +kernel
theorem dX7_init_65 : decode cX7_init 65 = .ok (.aload_n 0, 1) := by decide +kernel
theorem dX7_init_66 : decode cX7_init 66 = .ok (.iconst 0, 1) := by decide +kernel
theorem dX7_init_67 : decode cX7_init 67 = .ok (.putfield 38, 3) := by decide +kernel
theorem dX7_init_70 : decode cX7_init 70 = .ok (.aload_n 0, 1) := by decide +kernel
theorem dX7_init_71 : decode cX7_init 71 = .ok (.iconst 0, 1) := by decide +kernel
theorem dX7_init_72 : decode cX7_init 72 = .ok (.putfield 41, 3) := by decide +kernel
theorem dX7_init_75 : decode cX7_init 75 = .ok (.return_, 1) := by decide +kernel
theorem dX7_size_0 : decode cX7_size 0 = .ok (.aload_n 0, 1) := by decide +kernel
theorem dX7_size_1 : decode cX7_size 1 = .ok (.getfield 34, 3) := by decide +kernel
theorem dX7_size_4 : decode cX7_size 4 = .ok (.ireturn, 1) := by decide +kernel
theorem dX7_empty_0 : decode cX7_empty 0 = .ok (.aload_n 0, 1) := by decide +kernel
theorem dX7_empty_1 : decode cX7_empty 1 = .ok (.iconst 0, 1) := by decide +kernel
theorem dX7_empty_2 : decode cX7_empty 2 = .ok (.putfield 34, 3) := by decide +kernel
theorem dX7_empty_5 : decode cX7_empty 5 = .ok (.return_, 1) := by decide +kernel
theorem dX7_append_0 : decode cX7_append 0 = .ok (.aload_n 0, 1) := by decide +kernel
theorem dX7_append_1 : decode cX7_append 1 = .ok (.getfield 34, 3) := by decide +kernel
theorem dX7_append_4 : decode cX7_append 4 = .ok (.bipush 80, 2) := by decide +kernel
theorem dX7_append_6 : decode cX7_append 6 = .ok (.if_icmp .lt 5, 3) := by decide +kernel
theorem dX7_append_9 : decode cX7_append 9 = .ok (.iconst 0, 1) := by decide +kernel
theorem dX7_append_10 : decode cX7_append 10 = .ok (.ireturn, 1) := by decide +kernel
theorem dX7_append_11 : decode cX7_append 11 = .ok (.aload_n 0, 1) := by decide +kernel
theorem dX7_append_12 : decode cX7_append 12 = .ok (.getfield 9, 3) := by decide +kernel
theorem dX7_append_15 : decode cX7_append 15 = .ok (.aload_n 0, 1) := by decide +kernel
theorem dX7_append_16 : decode cX7_append 16 = .ok (.getfield 34, 3) := by decide +kernel
theorem dX7_append_19 : decode cX7_append 19 = .ok (.iload_n 1, 1) := by decide +kernel
theorem dX7_append_20 : decode cX7_append 20 = .ok (.castore, 1) := by decide +kernel
theorem dX7_append_21 : decode cX7_append 21 = .ok (.aload_n 0, 1) := by decide +kernel
theorem dX7_append_22 : decode cX7_append 22 = .ok (.dup, 1) := by decide +kernel
theorem dX7_append_23 : decode cX7_append 23 = .ok (.getfield 34, 3) := by decide +kernel
theorem dX7_append_26 : decode cX7_append 26 = .ok (.iconst 1, 1) := by decide +kernel
theorem dX7_append_27 : decode cX7_append 27 = .ok (.iadd, 1) := by decide +kernel
theorem dX7_append_28 : decode cX7_append 28 = .ok (.putfield 34, 3) := by decide +kernel
theorem dX7_append_31 : decode cX7_append 31 = .ok (.iconst 1, 1) := by decide +kernel
theorem dX7_append_32 : decode cX7_append 32 = .ok (.ireturn, 1) := by decide +kernel
theorem dX7_commandCount_0 : decode cX7_commandCount 0 = .ok (.aload_n 0, 1) := by decide +kernel
theorem dX7_commandCount_1 : decode cX7_commandCount 1 = .ok (.getfield 38, 3) := by decide +kernel
theorem dX7_commandCount_4 : decode cX7_commandCount 4 = .ok (.ireturn, 1) := by decide +kernel
theorem dX7_errorPlace_0 : decode cX7_errorPlace 0 = .ok (.aload_n 0, 1) := by decide +kernel
theorem dX7_errorPlace_1 : decode cX7_errorPlace 1 = .ok (.getfield 41, 3) := by decide +kernel
theorem dX7_errorPlace_4 : decode cX7_errorPlace 4 = .ok (.ireturn, 1) := by decide +kernel
theorem dX7_parse_0 : decode cX7_parse 0 = .ok (.aload_n 0, 1) := by decide +kernel
theorem dX7_parse_1 : decode cX7_parse 1 = .ok (.iconst 0, 1) := by decide +kernel
theorem dX7_parse_2 : decode cX7_parse 2 = .ok (.putfield 41, 3) := by decide +kernel
theorem dX7_parse_5 : decode cX7_parse 5 = .ok (.aload_n 0, 1) := by decide +kernel
theorem dX7_parse_6 : decode cX7_parse 6 = .ok (.iconst 0, 1) := by decide +kernel
theorem dX7_parse_7 : decode cX7_parse 7 = .ok (.putfield 38, 3) := by decide +kernel
theorem dX7_parse_10 : decode cX7_parse 10 = .ok (.iconst 0, 1) := by decide +kernel
theorem dX7_parse_11 : decode cX7_parse 11 = .ok (.istore_n 1, 1) := by decide +kernel
theorem dX7_parse_12 : decode cX7_parse 12 = .ok (.iload_n 1, 1) := by decide +kernel
theorem dX7_parse_13 : decode cX7_parse 13 = .ok (.bipush 27, 2) := by decide +kernel
theorem dX7_parse_15 : decode cX7_parse 15 = .ok (.if_icmp .ge 50, 3) := by decide +kernel
theorem dX7_parse_18 : decode cX7_parse 18 = .ok (.aload_n 0, 1) := by decide +kernel
theorem dX7_parse_19 : decode cX7_parse 19 = .ok (.iload_n 1, 1) := by decide +kernel
theorem dX7_parse_20 : decode cX7_parse 20 = .ok (.invokevirtual 44, 3) := by decide +kernel
theorem dX7_parse_23 : decode cX7_parse 23 = .ok (.ifCond .ne 5, 3) := by decide +kernel
theorem dX7_parse_26 : decode cX7_parse 26 = .ok (.iconst 0, 1) := by decide +kernel
theorem dX7_parse_27 : decode cX7_parse 27 = .ok (.ireturn, 1) := by decide +kernel
theorem dX7_parse_28 : decode cX7_parse 28 = .ok (.aload_n 0, 1) := by decide +kernel
theorem dX7_parse_29 : decode cX7_parse 29 = .ok (.iload_n 1, 1) := by decide +kernel
theorem dX7_parse_30 : decode cX7_parse 30 = .ok (.iconst 1, 1) := by decide +kernel
theorem dX7_parse_31 : decode cX7_parse 31 = .ok (.iadd, 1) := by decide +kernel
theorem dX7_parse_32 : decode cX7_parse 32 = .ok (.putfield 38, 3) := by decide +kernel
theorem dX7_parse_35 : decode cX7_parse 35 = .ok (.aload_n 0, 1) := by decide +kernel
theorem dX7_parse_36 : decode cX7_parse 36 = .ok (.getfield 41, 3) := by decide +kernel
theorem dX7_parse_39 : decode cX7_parse 39 = .ok (.aload_n 0, 1) := by decide +kernel
theorem dX7_parse_40 : decode cX7_parse 40 = .ok (.getfield 34, 3) := by decide +kernel
theorem dX7_parse_43 : decode cX7_parse 43 = .ok (.if_icmp .lt 5, 3) := by decide +kernel
theorem dX7_parse_46 : decode cX7_parse 46 = .ok (.iconst 1, 1) := by decide +kernel
theorem dX7_parse_47 : decode cX7_parse 47 = .ok (.ireturn, 1) := by decide +kernel
theorem dX7_parse_48 : decode cX7_parse 48 = .ok (.aload_n 0, 1) := by decide +kernel
theorem dX7_parse_49 : decode cX7_parse 49 = .ok (.bipush 59, 2) := by decide +kernel
theorem dX7_parse_51 : decode cX7_parse 51 = .ok (.invokevirtual 48, 3) := by decide +kernel
theorem dX7_parse_54 : decode cX7_parse 54 = .ok (.ifCond .ne 5, 3) := by decide +kernel
theorem dX7_parse_57 : decode cX7_parse 57 = .ok (.iconst 0, 1) := by decide +kernel
theorem dX7_parse_58 : decode cX7_parse 58 = .ok (.ireturn, 1) := by decide +kernel
theorem dX7_parse_59 : decode cX7_parse 59 = .ok (.iinc 1 1, 3) := by decide +kernel
theorem dX7_parse_62 : decode cX7_parse 62 = .ok (.goto (-50), 3) := by decide +kernel
theorem dX7_parse_65 : decode cX7_parse 65 = .ok (.iconst 0, 1) := by decide +kernel
theorem dX7_parse_66 : decode cX7_parse 66 = .ok (.ireturn, 1) := by decide +kernel
theorem dX7_sign_0 : decode cX7_sign 0 = .ok (.aload_n 0, 1) := by decide +kernel
theorem dX7_sign_1 : decode cX7_sign 1 = .ok (.getfield 41, 3) := by decide +kernel
theorem dX7_sign_4 : decode cX7_sign 4 = .ok (.ifCond .lt 35, 3) := by decide +kernel
theorem dX7_sign_7 : decode cX7_sign 7 = .ok (.aload_n 0, 1) := by decide +kernel
theorem dX7_sign_8 : decode cX7_sign 8 = .ok (.getfield 41, 3) := by decide +kernel
theorem dX7_sign_11 : decode cX7_sign 11 = .ok (.aload_n 0, 1) := by decide +kernel
theorem dX7_sign_12 : decode cX7_sign 12 = .ok (.getfield 34, 3) := by decide +kernel
theorem dX7_sign_15 : decode cX7_sign 15 = .ok (.if_icmp .ge 24, 3) := by decide +kernel
theorem dX7_sign_18 : decode cX7_sign 18 = .ok (.aload_n 0, 1) := by decide +kernel
theorem dX7_sign_19 : decode cX7_sign 19 = .ok (.getfield 41, 3) := by decide +kernel
theorem dX7_sign_22 : decode cX7_sign 22 = .ok (.bipush 80, 2) := by decide +kernel
theorem dX7_sign_24 : decode cX7_sign 24 = .ok (.if_icmp .ge 15, 3) := by decide +kernel
theorem dX7_sign_27 : decode cX7_sign 27 = .ok (.aload_n 0, 1) := by decide +kernel
theorem dX7_sign_28 : decode cX7_sign 28 = .ok (.getfield 9, 3) := by decide +kernel
theorem dX7_sign_31 : decode cX7_sign 31 = .ok (.aload_n 0, 1) := by decide +kernel
theorem dX7_sign_32 : decode cX7_sign 32 = .ok (.getfield 41, 3) := by decide +kernel
theorem dX7_sign_35 : decode cX7_sign 35 = .ok (.caload, 1) := by decide +kernel
theorem dX7_sign_36 : decode cX7_sign 36 = .ok (.goto 4, 3) := by decide +kernel
theorem dX7_sign_39 : decode cX7_sign 39 = .ok (.iconst 0, 1) := by decide +kernel
theorem dX7_sign_40 : decode cX7_sign 40 = .ok (.ireturn, 1) := by decide +kernel
theorem dX7_skip_0 : decode cX7_skip 0 = .ok (.aload_n 0, 1) := by decide +kernel
theorem dX7_skip_1 : decode cX7_skip 1 = .ok (.invokevirtual 52, 3) := by decide +kernel
theorem dX7_skip_4 : decode cX7_skip 4 = .ok (.iload_n 1, 1) := by decide +kernel
theorem dX7_skip_5 : decode cX7_skip 5 = .ok (.if_icmp .eq 5, 3) := by decide +kernel
theorem dX7_skip_8 : decode cX7_skip 8 = .ok (.iconst 0, 1) := by decide +kernel
theorem dX7_skip_9 : decode cX7_skip 9 = .ok (.ireturn, 1) := by decide +kernel
theorem dX7_skip_10 : decode cX7_skip 10 = .ok (.aload_n 0, 1) := by decide +kernel
theorem dX7_skip_11 : decode cX7_skip 11 = .ok (.dup, 1) := by decide +kernel
theorem dX7_skip_12 : decode cX7_skip 12 = .ok (.getfield 41, 3) := by decide +kernel
theorem dX7_skip_15 : decode cX7_skip 15 = .ok (.iconst 1, 1) := by decide +kernel
theorem dX7_skip_16 : decode cX7_skip 16 = .ok (.iadd, 1) := by decide +kernel
theorem dX7_skip_17 : decode cX7_skip 17 = .ok (.putfield 41, 3) := by decide +kernel
theorem dX7_skip_20 : decode cX7_skip 20 = .ok (.iconst 1, 1) := by decide +kernel
theorem dX7_skip_21 : decode cX7_skip 21 = .ok (.ireturn, 1) := by decide +kernel
theorem dX7_isDigit_0 : decode cX7_isDigit 0 = .ok (.aload_n 0, 1) := by decide +kernel
theorem dX7_isDigit_1 : decode cX7_isDigit 1 = .ok (.invokevirtual 52, 3) := by decide +kernel
theorem dX7_isDigit_4 : decode cX7_isDigit 4 = .ok (.bipush 48, 2) := by decide +kernel
theorem dX7_isDigit_6 : decode cX7_isDigit 6 = .ok (.if_icmp .lt 16, 3) := by decide +kernel
theorem dX7_isDigit_9 : decode cX7_isDigit 9 = .ok (.aload_n 0, 1) := by decide +kernel
theorem dX7_isDigit_10 : decode cX7_isDigit 10 = .ok (.invokevirtual 52, 3) := by decide +kernel
theorem dX7_isDigit_13 : decode cX7_isDigit 13 = .ok (.bipush 57, 2) := by decide +kernel
theorem dX7_isDigit_15 : decode cX7_isDigit 15 = .ok (.if_icmp .gt 7, 3) := by decide +kernel
theorem dX7_isDigit_18 : decode cX7_isDigit 18 = .ok (.iconst 1, 1) := by decide +kernel
theorem dX7_isDigit_19 : decode cX7_isDigit 19 = .ok (.goto 4, 3) := by decide +kernel
theorem dX7_isDigit_22 : decode cX7_isDigit 22 = .ok (.iconst 0, 1) := by decide +kernel
theorem dX7_isDigit_23 : decode cX7_isDigit 23 = .ok (.ireturn, 1) := by decide +kernel
theorem dX7_readDigit_0 : decode cX7_readDigit 0 = .ok (.aload_n 0, 1) := by decide +kernel
theorem dX7_readDigit_1 : decode cX7_readDigit 1 = .ok (.invokevirtual 56, 3) := by decide +kernel
theorem dX7_readDigit_4 : decode cX7_readDigit 4 = .ok (.ifCond .ne 6, 3) := by decide +kernel
theorem dX7_readDigit_7 : decode cX7_readDigit 7 = .ok (.bipush (-9), 2) := by decide +kernel
theorem dX7_readDigit_9 : decode cX7_readDigit 9 = .ok (.ireturn, 1) := by decide +kernel
theorem dX7_readDigit_10 : decode cX7_readDigit 10 = .ok (.aload_n 0, 1) := by decide +kernel
theorem dX7_readDigit_11 : decode cX7_readDigit 11 = .ok (.invokevirtual 52, 3) := by decide +kernel
theorem dX7_readDigit_14 : decode cX7_readDigit 14 = .ok (.bipush 48, 2) := by decide +kernel
theorem dX7_readDigit_16 : decode cX7_readDigit 16 = .ok (.isub, 1) := by decide +kernel
theorem dX7_readDigit_17 : decode cX7_readDigit 17 = .ok (.istore_n 1, 1) := by decide +kernel
theorem dX7_readDigit_18 : decode cX7_readDigit 18 = .ok (.aload_n 0, 1) := by decide +kernel
theorem dX7_readDigit_19 : decode cX7_readDigit 19 = .ok (.dup, 1) := by decide +kernel
theorem dX7_readDigit_20 : decode cX7_readDigit 20 = .ok (.getfield 41, 3) := by decide +kernel
theorem dX7_readDigit_23 : decode cX7_readDigit 23 = .ok (.iconst 1, 1) := by decide +kernel
theorem dX7_readDigit_24 : decode cX7_readDigit 24 = .ok (.iadd, 1) := by decide +kernel
theorem dX7_readDigit_25 : decode cX7_readDigit 25 = .ok (.putfield 41, 3) := by decide +kernel
theorem dX7_readDigit_28 : decode cX7_readDigit 28 = .ok (.iload_n 1, 1) := by decide +kernel
theorem dX7_readDigit_29 : decode cX7_readDigit 29 = .ok (.ireturn, 1) := by decide +kernel
theorem dX7_readDigits_0 : decode cX7_readDigits 0 = .ok (.iconst 0, 1) := by decide +kernel
theorem dX7_readDigits_1 : decode cX7_readDigits 1 = .ok (.istore_n 2, 1) := by decide +kernel
theorem dX7_readDigits_2 : decode cX7_readDigits 2 = .ok (.iconst 0, 1) := by decide +kernel
theorem dX7_readDigits_3 : decode cX7_readDigits 3 = .ok (.istore_n 3, 1) := by decide +kernel
theorem dX7_readDigits_4 : decode cX7_readDigits 4 = .ok (.iload_n 3, 1) := by decide +kernel
theorem dX7_readDigits_5 : decode cX7_readDigits 5 = .ok (.iload_n 1, 1) := by decide +kernel
theorem dX7_readDigits_6 : decode cX7_readDigits 6 = .ok (.if_icmp .ge 39, 3) := by decide +kernel
theorem dX7_readDigits_9 : decode cX7_readDigits 9 = .ok (.aload_n 0, 1) := by decide +kernel
theorem dX7_readDigits_10 : decode cX7_readDigits 10 = .ok (.invokevirtual 56, 3) := by decide +kernel
theorem dX7_readDigits_13 : decode cX7_readDigits 13 = .ok (.ifCond .eq 32, 3) := by decide +kernel
theorem dX7_readDigits_16 : decode cX7_readDigits 16 = .ok (.bipush 10, 2) := by decide +kernel
theorem dX7_readDigits_18 : decode cX7_readDigits 18 = .ok (.iload_n 2, 1) := by decide +kernel
theorem dX7_readDigits_19 : decode cX7_readDigits 19 = .ok (.imul, 1) := by decide +kernel
theorem dX7_readDigits_20 : decode cX7_readDigits 20 = .ok (.aload_n 0, 1) := by decide +kernel
theorem dX7_readDigits_21 : decode cX7_readDigits 21 = .ok (.invokevirtual 52, 3) := by decide +kernel
theorem dX7_readDigits_24 : decode cX7_readDigits 24 = .ok (.bipush 48, 2) := by decide +kernel
theorem dX7_readDigits_26 : decode cX7_readDigits 26 = .ok (.isub, 1) := by decide +kernel
theorem dX7_readDigits_27 : decode cX7_readDigits 27 = .ok (.iadd, 1) := by decide +kernel
theorem dX7_readDigits_28 : decode cX7_readDigits 28 = .ok (.istore_n 2, 1) := by decide +kernel
theorem dX7_readDigits_29 : decode cX7_readDigits 29 = .ok (.aload_n 0, 1) := by decide +kernel
theorem dX7_readDigits_30 : decode cX7_readDigits 30 = .ok (.dup, 1) := by decide +kernel
theorem dX7_readDigits_31 : decode cX7_readDigits 31 = .ok (.getfield 41, 3) := by decide +kernel
theorem dX7_readDigits_34 : decode cX7_readDigits 34 = .ok (.iconst 1, 1) := by decide +kernel
theorem dX7_readDigits_35 : decode cX7_readDigits 35 = .ok (.iadd, 1) := by decide +kernel
theorem dX7_readDigits_36 : decode cX7_readDigits 36 = .ok (.putfield 41, 3) := by decide +kernel
theorem dX7_readDigits_39 : decode cX7_readDigits 39 = .ok (.iinc 3 1, 3) := by decide +kernel
theorem dX7_readDigits_42 : decode cX7_readDigits 42 = .ok (.goto (-38), 3) := by decide +kernel
theorem dX7_readDigits_45 : decode cX7_readDigits 45 = .ok (.iload_n 2, 1) := by decide +kernel
theorem dX7_readDigits_46 : decode cX7_readDigits 46 = .ok (.ireturn, 1) := by decide +kernel
theorem dX7_readCommand_0 : decode cX7_readCommand 0 = .ok (.iload_n 1, 1) := by decide +kernel
theorem dX7_readCommand_1 : decode cX7_readCommand 1 = .ok (.ifCond .lt 9, 3) := by decide +kernel
theorem dX7_readCommand_4 : decode cX7_readCommand 4 = .ok (.iload_n 1, 1) := by decide +kernel
theorem dX7_readCommand_5 : decode cX7_readCommand 5 = .ok (.bipush 27, 2) := by decide +kernel
theorem dX7_readCommand_7 : decode cX7_readCommand 7 = .ok (.if_icmp .lt 5, 3) := by decide +kernel
theorem dX7_readCommand_10 : decode cX7_readCommand 10 = .ok (.iconst 0, 1) := by decide +kernel
theorem dX7_readCommand_11 : decode cX7_readCommand 11 = .ok (.ireturn, 1) := by decide +kernel
theorem dX7_readCommand_12 : decode cX7_readCommand 12 = .ok (.aload_n 0, 1) := by decide +kernel
theorem dX7_readCommand_13 : decode cX7_readCommand 13 = .ok (.getfield 15, 3) := by decide +kernel
theorem dX7_readCommand_16 : decode cX7_readCommand 16 = .ok (.iload_n 1, 1) := by decide +kernel
theorem dX7_readCommand_17 : decode cX7_readCommand 17 = .ok (.aload_n 0, 1) := by decide +kernel
theorem dX7_readCommand_18 : decode cX7_readCommand 18 = .ok (.invokevirtual 52, 3) := by decide +kernel
theorem dX7_readCommand_21 : decode cX7_readCommand 21 = .ok (.castore, 1) := by decide +kernel
theorem dX7_readCommand_22 : decode cX7_readCommand 22 = .ok (.aload_n 0, 1) := by decide +kernel
theorem dX7_readCommand_23 : decode cX7_readCommand 23 = .ok (.bipush 114, 2) := by decide +kernel
theorem dX7_readCommand_25 : decode cX7_readCommand 25 = .ok (.invokevirtual 48, 3) := by decide +kernel
theorem dX7_readCommand_28 : decode cX7_readCommand 28 = .ok (.ifCond .eq 9, 3) := by decide +kernel
theorem dX7_readCommand_31 : decode cX7_readCommand 31 = .ok (.aload_n 0, 1) := by decide +kernel
theorem dX7_readCommand_32 : decode cX7_readCommand 32 = .ok (.iload_n 1, 1) := by decide +kernel
theorem dX7_readCommand_33 : decode cX7_readCommand 33 = .ok (.invokevirtual 60, 3) := by decide +kernel
theorem dX7_readCommand_36 : decode cX7_readCommand 36 = .ok (.ireturn, 1) := by decide +kernel
theorem dX7_readCommand_37 : decode cX7_readCommand 37 = .ok (.aload_n 0, 1) := by decide +kernel
theorem dX7_readCommand_38 : decode cX7_readCommand 38 = .ok (.bipush 112, 2) := by decide +kernel
theorem dX7_readCommand_40 : decode cX7_readCommand 40 = .ok (.invokevirtual 48, 3) := by decide +kernel
theorem dX7_readCommand_43 : decode cX7_readCommand 43 = .ok (.ifCond .eq 9, 3) := by decide +kernel
theorem dX7_readCommand_46 : decode cX7_readCommand 46 = .ok (.aload_n 0, 1) := by decide +kernel
theorem dX7_readCommand_47 : decode cX7_readCommand 47 = .ok (.iload_n 1, 1) := by decide +kernel
theorem dX7_readCommand_48 : decode cX7_readCommand 48 = .ok (.invokevirtual 63, 3) := by decide +kernel
theorem dX7_readCommand_51 : decode cX7_readCommand 51 = .ok (.ireturn, 1) := by decide +kernel
theorem dX7_readCommand_52 : decode cX7_readCommand 52 = .ok (.aload_n 0, 1) := by decide +kernel
theorem dX7_readCommand_53 : decode cX7_readCommand 53 = .ok (.bipush 108, 2) := by decide +kernel
theorem dX7_readCommand_55 : decode cX7_readCommand 55 = .ok (.invokevirtual 48, 3) := by decide +kernel
theorem dX7_readCommand_58 : decode cX7_readCommand 58 = .ok (.ifCond .eq 15, 3) := by decide +kernel
theorem dX7_readCommand_61 : decode cX7_readCommand 61 = .ok (.aload_n 0, 1) := by decide +kernel
theorem dX7_readCommand_62 : decode cX7_readCommand 62 = .ok (.iload_n 1, 1) := by decide +kernel
theorem dX7_readCommand_63 : decode cX7_readCommand 63 = .ok (.invokevirtual 66, 3) := by decide +kernel
theorem dX7_readCommand_66 : decode cX7_readCommand 66 = .ok (.ifCond .eq 7, 3) := by decide +kernel
theorem dX7_readCommand_69 : decode cX7_readCommand 69 = .ok (.iconst 1, 1) := by decide +kernel
theorem dX7_readCommand_70 : decode cX7_readCommand 70 = .ok (.goto 4, 3) := by decide +kernel
theorem dX7_readCommand_73 : decode cX7_readCommand 73 = .ok (.iconst 0, 1) := by decide +kernel
end
section
theorem dX7_readCommand_74 : decode cX7_readCommand 74 = .ok (.ireturn, 1) := by decide +kernel
theorem dX7_readSwitch_0 : decode cX7_readSwitch 0 = .ok (.aload_n 0, 1) := by decide +kernel
theorem dX7_readSwitch_1 : decode cX7_readSwitch 1 = .ok (.getfield 18, 3) := by decide +kernel
theorem dX7_readSwitch_4 : decode cX7_readSwitch 4 = .ok (.iload_n 1, 1) := by decide +kernel
theorem dX7_readSwitch_5 : decode cX7_readSwitch 5 = .ok (.aload_n 0, 1) := by decide +kernel
theorem dX7_readSwitch_6 : decode cX7_readSwitch 6 = .ok (.invokevirtual 69, 3) := by decide +kernel
theorem dX7_readSwitch_9 : decode cX7_readSwitch 9 = .ok (.iastore, 1) := by decide +kernel
theorem dX7_readSwitch_10 : decode cX7_readSwitch 10 = .ok (.aload_n 0, 1) := by decide +kernel
theorem dX7_readSwitch_11 : decode cX7_readSwitch 11 = .ok (.getfield 18, 3) := by decide +kernel
theorem dX7_readSwitch_14 : decode cX7_readSwitch 14 = .ok (.iload_n 1, 1) := by decide +kernel
theorem dX7_readSwitch_15 : decode cX7_readSwitch 15 = .ok (.iaload, 1) := by decide +kernel
theorem dX7_readSwitch_16 : decode cX7_readSwitch 16 = .ok (.bipush (-9), 2) := by decide +kernel
theorem dX7_readSwitch_18 : decode cX7_readSwitch 18 = .ok (.if_icmp .eq 7, 3) := by decide +kernel
theorem dX7_readSwitch_21 : decode cX7_readSwitch 21 = .ok (.iconst 1, 1) := by decide +kernel
theorem dX7_readSwitch_22 : decode cX7_readSwitch 22 = .ok (.goto 4, 3) := by decide +kernel
theorem dX7_readSwitch_25 : decode cX7_readSwitch 25 = .ok (.iconst 0, 1) := by decide +kernel
theorem dX7_readSwitch_26 : decode cX7_readSwitch 26 = .ok (.ireturn, 1) := by decide +kernel
theorem dX7_readRoute_0 : decode cX7_readRoute 0 = .ok (.aload_n 0, 1) := by decide +kernel
theorem dX7_readRoute_1 : decode cX7_readRoute 1 = .ok (.iload_n 1, 1) := by decide +kernel
theorem dX7_readRoute_2 : decode cX7_readRoute 2 = .ok (.invokevirtual 66, 3) := by decide +kernel
theorem dX7_readRoute_5 : decode cX7_readRoute 5 = .ok (.ifCond .eq 12, 3) := by decide +kernel
theorem dX7_readRoute_8 : decode cX7_readRoute 8 = .ok (.aload_n 0, 1) := by decide +kernel
theorem dX7_readRoute_9 : decode cX7_readRoute 9 = .ok (.bipush 62, 2) := by decide +kernel
theorem dX7_readRoute_11 : decode cX7_readRoute 11 = .ok (.invokevirtual 48, 3) := by decide +kernel
theorem dX7_readRoute_14 : decode cX7_readRoute 14 = .ok (.ifCond .ne 5, 3) := by decide +kernel
theorem dX7_readRoute_17 : decode cX7_readRoute 17 = .ok (.iconst 0, 1) := by decide +kernel
theorem dX7_readRoute_18 : decode cX7_readRoute 18 = .ok (.ireturn, 1) := by decide +kernel
theorem dX7_readRoute_19 : decode cX7_readRoute 19 = .ok (.aload_n 0, 1) := by decide +kernel
theorem dX7_readRoute_20 : decode cX7_readRoute 20 = .ok (.getfield 22, 3) := by decide +kernel
theorem dX7_readRoute_23 : decode cX7_readRoute 23 = .ok (.iload_n 1, 1) := by decide +kernel
theorem dX7_readRoute_24 : decode cX7_readRoute 24 = .ok (.aload_n 0, 1) := by decide +kernel
theorem dX7_readRoute_25 : decode cX7_readRoute 25 = .ok (.invokevirtual 69, 3) := by decide +kernel
theorem dX7_readRoute_28 : decode cX7_readRoute 28 = .ok (.iastore, 1) := by decide +kernel
theorem dX7_readRoute_29 : decode cX7_readRoute 29 = .ok (.aload_n 0, 1) := by decide +kernel
theorem dX7_readRoute_30 : decode cX7_readRoute 30 = .ok (.getfield 22, 3) := by decide +kernel
theorem dX7_readRoute_33 : decode cX7_readRoute 33 = .ok (.iload_n 1, 1) := by decide +kernel
theorem dX7_readRoute_34 : decode cX7_readRoute 34 = .ok (.iaload, 1) := by decide +kernel
theorem dX7_readRoute_35 : decode cX7_readRoute 35 = .ok (.bipush (-9), 2) := by decide +kernel
theorem dX7_readRoute_37 : decode cX7_readRoute 37 = .ok (.if_icmp .eq 12, 3) := by decide +kernel
theorem dX7_readRoute_40 : decode cX7_readRoute 40 = .ok (.aload_n 0, 1) := by decide +kernel
theorem dX7_readRoute_41 : decode cX7_readRoute 41 = .ok (.bipush 58, 2) := by decide +kernel
theorem dX7_readRoute_43 : decode cX7_readRoute 43 = .ok (.invokevirtual 48, 3) := by decide +kernel
theorem dX7_readRoute_46 : decode cX7_readRoute 46 = .ok (.ifCond .ne 5, 3) := by decide +kernel
theorem dX7_readRoute_49 : decode cX7_readRoute 49 = .ok (.iconst 0, 1) := by decide +kernel
theorem dX7_readRoute_50 : decode cX7_readRoute 50 = .ok (.ireturn, 1) := by decide +kernel
theorem dX7_readRoute_51 : decode cX7_readRoute 51 = .ok (.aload_n 0, 1) := by decide +kernel
theorem dX7_readRoute_52 : decode cX7_readRoute 52 = .ok (.getfield 25, 3) := by decide +kernel
theorem dX7_readRoute_55 : decode cX7_readRoute 55 = .ok (.iload_n 1, 1) := by decide +kernel
theorem dX7_readRoute_56 : decode cX7_readRoute 56 = .ok (.aload_n 0, 1) := by decide +kernel
theorem dX7_readRoute_57 : decode cX7_readRoute 57 = .ok (.invokevirtual 52, 3) := by decide +kernel
theorem dX7_readRoute_60 : decode cX7_readRoute 60 = .ok (.bipush 48, 2) := by decide +kernel
theorem dX7_readRoute_62 : decode cX7_readRoute 62 = .ok (.if_icmp .ne 7, 3) := by decide +kernel
theorem dX7_readRoute_65 : decode cX7_readRoute 65 = .ok (.iconst 0, 1) := by decide +kernel
theorem dX7_readRoute_66 : decode cX7_readRoute 66 = .ok (.goto 9, 3) := by decide +kernel
theorem dX7_readRoute_69 : decode cX7_readRoute 69 = .ok (.aload_n 0, 1) := by decide +kernel
theorem dX7_readRoute_70 : decode cX7_readRoute 70 = .ok (.bipush 9, 2) := by decide +kernel
theorem dX7_readRoute_72 : decode cX7_readRoute 72 = .ok (.invokevirtual 73, 3) := by decide +kernel
theorem dX7_readRoute_75 : decode cX7_readRoute 75 = .ok (.iastore, 1) := by decide +kernel
theorem dX7_readRoute_76 : decode cX7_readRoute 76 = .ok (.aload_n 0, 1) := by decide +kernel
theorem dX7_readRoute_77 : decode cX7_readRoute 77 = .ok (.bipush 64, 2) := by decide +kernel
theorem dX7_readRoute_79 : decode cX7_readRoute 79 = .ok (.invokevirtual 48, 3) := by decide +kernel
theorem dX7_readRoute_82 : decode cX7_readRoute 82 = .ok (.ifCond .eq 10, 3) := by decide +kernel
theorem dX7_readRoute_85 : decode cX7_readRoute 85 = .ok (.aload_n 0, 1) := by decide +kernel
theorem dX7_readRoute_86 : decode cX7_readRoute 86 = .ok (.invokevirtual 56, 3) := by decide +kernel
theorem dX7_readRoute_89 : decode cX7_readRoute 89 = .ok (.ifCond .ne 5, 3) := by decide +kernel
theorem dX7_readRoute_92 : decode cX7_readRoute 92 = .ok (.iconst 0, 1) := by decide +kernel
theorem dX7_readRoute_93 : decode cX7_readRoute 93 = .ok (.ireturn, 1) := by decide +kernel
theorem dX7_readRoute_94 : decode cX7_readRoute 94 = .ok (.aload_n 0, 1) := by decide +kernel
theorem dX7_readRoute_95 : decode cX7_readRoute 95 = .ok (.getfield 28, 3) := by decide +kernel
theorem dX7_readRoute_98 : decode cX7_readRoute 98 = .ok (.iload_n 1, 1) := by decide +kernel
theorem dX7_readRoute_99 : decode cX7_readRoute 99 = .ok (.aload_n 0, 1) := by decide +kernel
theorem dX7_readRoute_100 : decode cX7_readRoute 100 = .ok (.iconst 4, 1) := by decide +kernel
theorem dX7_readRoute_101 : decode cX7_readRoute 101 = .ok (.invokevirtual 73, 3) := by decide +kernel
theorem dX7_readRoute_104 : decode cX7_readRoute 104 = .ok (.iastore, 1) := by decide +kernel
theorem dX7_readRoute_105 : decode cX7_readRoute 105 = .ok (.aload_n 0, 1) := by decide +kernel
theorem dX7_readRoute_106 : decode cX7_readRoute 106 = .ok (.bipush 120, 2) := by decide +kernel
theorem dX7_readRoute_108 : decode cX7_readRoute 108 = .ok (.invokevirtual 48, 3) := by decide +kernel
theorem dX7_readRoute_111 : decode cX7_readRoute 111 = .ok (.ifCond .eq 10, 3) := by decide +kernel
theorem dX7_readRoute_114 : decode cX7_readRoute 114 = .ok (.aload_n 0, 1) := by decide +kernel
theorem dX7_readRoute_115 : decode cX7_readRoute 115 = .ok (.invokevirtual 56, 3) := by decide +kernel
theorem dX7_readRoute_118 : decode cX7_readRoute 118 = .ok (.ifCond .ne 5, 3) := by decide +kernel
theorem dX7_readRoute_121 : decode cX7_readRoute 121 = .ok (.iconst 0, 1) := by decide +kernel
theorem dX7_readRoute_122 : decode cX7_readRoute 122 = .ok (.ireturn, 1) := by decide +kernel
theorem dX7_readRoute_123 : decode cX7_readRoute 123 = .ok (.aload_n 0, 1) := by decide +kernel
theorem dX7_readRoute_124 : decode cX7_readRoute 124 = .ok (.getfield 31, 3) := by decide +kernel
theorem dX7_readRoute_127 : decode cX7_readRoute 127 = .ok (.iload_n 1, 1) := by decide +kernel
theorem dX7_readRoute_128 : decode cX7_readRoute 128 = .ok (.aload_n 0, 1) := by decide +kernel
theorem dX7_readRoute_129 : decode cX7_readRoute 129 = .ok (.iconst 4, 1) := by decide +kernel
theorem dX7_readRoute_130 : decode cX7_readRoute 130 = .ok (.invokevirtual 73, 3) := by decide +kernel
theorem dX7_readRoute_133 : decode cX7_readRoute 133 = .ok (.iastore, 1) := by decide +kernel
theorem dX7_readRoute_134 : decode cX7_readRoute 134 = .ok (.iconst 1, 1) := by decide +kernel
theorem dX7_readRoute_135 : decode cX7_readRoute 135 = .ok (.ireturn, 1) := by decide +kernel
theorem dX7_readPort_0 : decode cX7_readPort 0 = .ok (.aload_n 0, 1) := by decide +kernel
theorem dX7_readPort_1 : decode cX7_readPort 1 = .ok (.invokevirtual 52, 3) := by decide +kernel
theorem dX7_readPort_4 : decode cX7_readPort 4 = .ok (.bipush 48, 2) := by decide +kernel
theorem dX7_readPort_6 : decode cX7_readPort 6 = .ok (.if_icmp .eq 10, 3) := by decide +kernel
theorem dX7_readPort_9 : decode cX7_readPort 9 = .ok (.aload_n 0, 1) := by decide +kernel
theorem dX7_readPort_10 : decode cX7_readPort 10 = .ok (.invokevirtual 56, 3) := by decide +kernel
theorem dX7_readPort_13 : decode cX7_readPort 13 = .ok (.ifCond .ne 5, 3) := by decide +kernel
theorem dX7_readPort_16 : decode cX7_readPort 16 = .ok (.iconst 0, 1) := by decide +kernel
theorem dX7_readPort_17 : decode cX7_readPort 17 = .ok (.ireturn, 1) := by decide +kernel
theorem dX7_readPort_18 : decode cX7_readPort 18 = .ok (.aload_n 0, 1) := by decide +kernel
theorem dX7_readPort_19 : decode cX7_readPort 19 = .ok (.getfield 25, 3) := by decide +kernel
theorem dX7_readPort_22 : decode cX7_readPort 22 = .ok (.iload_n 1, 1) := by decide +kernel
theorem dX7_readPort_23 : decode cX7_readPort 23 = .ok (.aload_n 0, 1) := by decide +kernel
theorem dX7_readPort_24 : decode cX7_readPort 24 = .ok (.bipush 9, 2) := by decide +kernel
theorem dX7_readPort_26 : decode cX7_readPort 26 = .ok (.invokevirtual 73, 3) := by decide +kernel
theorem dX7_readPort_29 : decode cX7_readPort 29 = .ok (.iastore, 1) := by decide +kernel
theorem dX7_readPort_30 : decode cX7_readPort 30 = .ok (.aload_n 0, 1) := by decide +kernel
theorem dX7_readPort_31 : decode cX7_readPort 31 = .ok (.bipush 62, 2) := by decide +kernel
theorem dX7_readPort_33 : decode cX7_readPort 33 = .ok (.invokevirtual 48, 3) := by decide +kernel
theorem dX7_readPort_36 : decode cX7_readPort 36 = .ok (.ifCond .eq 15, 3) := by decide +kernel
theorem dX7_readPort_39 : decode cX7_readPort 39 = .ok (.aload_n 0, 1) := by decide +kernel
theorem dX7_readPort_40 : decode cX7_readPort 40 = .ok (.iload_n 1, 1) := by decide +kernel
theorem dX7_readPort_41 : decode cX7_readPort 41 = .ok (.invokevirtual 66, 3) := by decide +kernel
theorem dX7_readPort_44 : decode cX7_readPort 44 = .ok (.ifCond .eq 7, 3) := by decide +kernel
theorem dX7_readPort_47 : decode cX7_readPort 47 = .ok (.iconst 1, 1) := by decide +kernel
theorem dX7_readPort_48 : decode cX7_readPort 48 = .ok (.goto 4, 3) := by decide +kernel
theorem dX7_readPort_51 : decode cX7_readPort 51 = .ok (.iconst 0, 1) := by decide +kernel
theorem dX7_readPort_52 : decode cX7_readPort 52 = .ok (.ireturn, 1) := by decide +kernel
theorem dX7_carryOut_0 : decode cX7_carryOut 0 = .ok (.iload_n 1, 1) := by decide +kernel
theorem dX7_carryOut_1 : decode cX7_carryOut 1 = .ok (.ifCond .lt 17, 3) := by decide +kernel
theorem dX7_carryOut_4 : decode cX7_carryOut 4 = .ok (.iload_n 1, 1) := by decide +kernel
theorem dX7_carryOut_5 : decode cX7_carryOut 5 = .ok (.aload_n 0, 1) := by decide +kernel
theorem dX7_carryOut_6 : decode cX7_carryOut 6 = .ok (.getfield 38, 3) := by decide +kernel
theorem dX7_carryOut_9 : decode cX7_carryOut 9 = .ok (.if_icmp .ge 9, 3) := by decide +kernel
theorem dX7_carryOut_12 : decode cX7_carryOut 12 = .ok (.iload_n 1, 1) := by decide +kernel
theorem dX7_carryOut_13 : decode cX7_carryOut 13 = .ok (.bipush 27, 2) := by decide +kernel
theorem dX7_carryOut_15 : decode cX7_carryOut 15 = .ok (.if_icmp .lt 5, 3) := by decide +kernel
theorem dX7_carryOut_18 : decode cX7_carryOut 18 = .ok (.iconst 0, 1) := by decide +kernel
theorem dX7_carryOut_19 : decode cX7_carryOut 19 = .ok (.ireturn, 1) := by decide +kernel
theorem dX7_carryOut_20 : decode cX7_carryOut 20 = .ok (.aload_n 0, 1) := by decide +kernel
theorem dX7_carryOut_21 : decode cX7_carryOut 21 = .ok (.getfield 15, 3) := by decide +kernel
theorem dX7_carryOut_24 : decode cX7_carryOut 24 = .ok (.iload_n 1, 1) := by decide +kernel
theorem dX7_carryOut_25 : decode cX7_carryOut 25 = .ok (.caload, 1) := by decide +kernel
theorem dX7_carryOut_26 : decode cX7_carryOut 26 = .ok (.bipush 114, 2) := by decide +kernel
theorem dX7_carryOut_28 : decode cX7_carryOut 28 = .ok (.if_icmp .ne 10, 3) := by decide +kernel
theorem dX7_carryOut_31 : decode cX7_carryOut 31 = .ok (.aload_n 0, 1) := by decide +kernel
theorem dX7_carryOut_32 : decode cX7_carryOut 32 = .ok (.iload_n 1, 1) := by decide +kernel
theorem dX7_carryOut_33 : decode cX7_carryOut 33 = .ok (.aload_n 2, 1) := by decide +kernel
theorem dX7_carryOut_34 : decode cX7_carryOut 34 = .ok (.invokevirtual 77, 3) := by decide +kernel
theorem dX7_carryOut_37 : decode cX7_carryOut 37 = .ok (.ireturn, 1) := by decide +kernel
theorem dX7_carryOut_38 : decode cX7_carryOut 38 = .ok (.aload_n 0, 1) := by decide +kernel
theorem dX7_carryOut_39 : decode cX7_carryOut 39 = .ok (.getfield 15, 3) := by decide +kernel
theorem dX7_carryOut_42 : decode cX7_carryOut 42 = .ok (.iload_n 1, 1) := by decide +kernel
theorem dX7_carryOut_43 : decode cX7_carryOut 43 = .ok (.caload, 1) := by decide +kernel
theorem dX7_carryOut_44 : decode cX7_carryOut 44 = .ok (.bipush 112, 2) := by decide +kernel
theorem dX7_carryOut_46 : decode cX7_carryOut 46 = .ok (.if_icmp .ne 12, 3) := by decide +kernel
theorem dX7_carryOut_49 : decode cX7_carryOut 49 = .ok (.aload_n 0, 1) := by decide +kernel
theorem dX7_carryOut_50 : decode cX7_carryOut 50 = .ok (.iload_n 1, 1) := by decide +kernel
theorem dX7_carryOut_51 : decode cX7_carryOut 51 = .ok (.aload_n 2, 1) := by decide +kernel
theorem dX7_carryOut_52 : decode cX7_carryOut 52 = .ok (.invokevirtual 81, 3) := by decide +kernel
theorem dX7_carryOut_55 : decode cX7_carryOut 55 = .ok (.goto 9, 3) := by decide +kernel
theorem dX7_carryOut_58 : decode cX7_carryOut 58 = .ok (.aload_n 0, 1) := by decide +kernel
theorem dX7_carryOut_59 : decode cX7_carryOut 59 = .ok (.iload_n 1, 1) := by decide +kernel
theorem dX7_carryOut_60 : decode cX7_carryOut 60 = .ok (.aload_n 2, 1) := by decide +kernel
theorem dX7_carryOut_61 : decode cX7_carryOut 61 = .ok (.invokevirtual 84, 3) := by decide +kernel
theorem dX7_carryOut_64 : decode cX7_carryOut 64 = .ok (.ireturn, 1) := by decide +kernel
theorem dX7_putRoute_0 : decode cX7_putRoute 0 = .ok (.aload_n 0, 1) := by decide +kernel
theorem dX7_putRoute_1 : decode cX7_putRoute 1 = .ok (.getfield 18, 3) := by decide +kernel
theorem dX7_putRoute_4 : decode cX7_putRoute 4 = .ok (.iload_n 1, 1) := by decide +kernel
theorem dX7_putRoute_5 : decode cX7_putRoute 5 = .ok (.iaload, 1) := by decide +kernel
theorem dX7_putRoute_6 : decode cX7_putRoute 6 = .ok (.istore_n 3, 1) := by decide +kernel
theorem dX7_putRoute_7 : decode cX7_putRoute 7 = .ok (.aload_n 0, 1) := by decide +kernel
theorem dX7_putRoute_8 : decode cX7_putRoute 8 = .ok (.getfield 22, 3) := by decide +kernel
theorem dX7_putRoute_11 : decode cX7_putRoute 11 = .ok (.iload_n 1, 1) := by decide +kernel
theorem dX7_putRoute_12 : decode cX7_putRoute 12 = .ok (.iaload, 1) := by decide +kernel
theorem dX7_putRoute_13 : decode cX7_putRoute 13 = .ok (.istore 4, 2) := by decide +kernel
theorem dX7_putRoute_15 : decode cX7_putRoute 15 = .ok (.aload_n 2, 1) := by decide +kernel
theorem dX7_putRoute_16 : decode cX7_putRoute 16 = .ok (.iload_n 3, 1) := by decide +kernel
theorem dX7_putRoute_17 : decode cX7_putRoute 17 = .ok (.aload_n 0, 1) := by decide +kernel
theorem dX7_putRoute_18 : decode cX7_putRoute 18 = .ok (.getfield 25, 3) := by decide +kernel
theorem dX7_putRoute_21 : decode cX7_putRoute 21 = .ok (.iload_n 1, 1) := by decide +kernel
theorem dX7_putRoute_22 : decode cX7_putRoute 22 = .ok (.iaload, 1) := by decide +kernel
theorem dX7_putRoute_23 : decode cX7_putRoute 23 = .ok (.iload 4, 2) := by decide +kernel
theorem dX7_putRoute_25 : decode cX7_putRoute 25 = .ok (.aload_n 0, 1) := by decide +kernel
theorem dX7_putRoute_26 : decode cX7_putRoute 26 = .ok (.getfield 28, 3) := by decide +kernel
theorem dX7_putRoute_29 : decode cX7_putRoute 29 = .ok (.iload_n 1, 1) := by decide +kernel
theorem dX7_putRoute_30 : decode cX7_putRoute 30 = .ok (.iaload, 1) := by decide +kernel
theorem dX7_putRoute_31 : decode cX7_putRoute 31 = .ok (.aload_n 0, 1) := by decide +kernel
theorem dX7_putRoute_32 : decode cX7_putRoute 32 = .ok (.getfield 31, 3) := by decide +kernel
theorem dX7_putRoute_35 : decode cX7_putRoute 35 = .ok (.iload_n 1, 1) := by decide +kernel
theorem dX7_putRoute_36 : decode cX7_putRoute 36 = .ok (.iaload, 1) := by decide +kernel
theorem dX7_putRoute_37 : decode cX7_putRoute 37 = .ok (.invokevirtual 87, 3) := by decide +kernel
theorem dX7_putRoute_40 : decode cX7_putRoute 40 = .ok (.ifCond .eq 5, 3) := by decide +kernel
theorem dX7_putRoute_43 : decode cX7_putRoute 43 = .ok (.iconst 0, 1) := by decide +kernel
theorem dX7_putRoute_44 : decode cX7_putRoute 44 = .ok (.ireturn, 1) := by decide +kernel
theorem dX7_putRoute_45 : decode cX7_putRoute 45 = .ok (.aload_n 2, 1) := by decide +kernel
theorem dX7_putRoute_46 : decode cX7_putRoute 46 = .ok (.invokevirtual 93, 3) := by decide +kernel
theorem dX7_putRoute_49 : decode cX7_putRoute 49 = .ok (.iload_n 3, 1) := by decide +kernel
theorem dX7_putRoute_50 : decode cX7_putRoute 50 = .ok (.aload_n 0, 1) := by decide +kernel
theorem dX7_putRoute_51 : decode cX7_putRoute 51 = .ok (.getfield 25, 3) := by decide +kernel
theorem dX7_putRoute_54 : decode cX7_putRoute 54 = .ok (.iload_n 1, 1) := by decide +kernel
theorem dX7_putRoute_55 : decode cX7_putRoute 55 = .ok (.iaload, 1) := by decide +kernel
theorem dX7_putRoute_56 : decode cX7_putRoute 56 = .ok (.iload 4, 2) := by decide +kernel
theorem dX7_putRoute_58 : decode cX7_putRoute 58 = .ok (.aload_n 0, 1) := by decide +kernel
theorem dX7_putRoute_59 : decode cX7_putRoute 59 = .ok (.getfield 28, 3) := by decide +kernel
theorem dX7_putRoute_62 : decode cX7_putRoute 62 = .ok (.iload_n 1, 1) := by decide +kernel
theorem dX7_putRoute_63 : decode cX7_putRoute 63 = .ok (.iaload, 1) := by decide +kernel
theorem dX7_putRoute_64 : decode cX7_putRoute 64 = .ok (.aload_n 0, 1) := by decide +kernel
theorem dX7_putRoute_65 : decode cX7_putRoute 65 = .ok (.getfield 31, 3) := by decide +kernel
theorem dX7_putRoute_68 : decode cX7_putRoute 68 = .ok (.iload_n 1, 1) := by decide +kernel
theorem dX7_putRoute_69 : decode cX7_putRoute 69 = .ok (.iaload, 1) := by decide +kernel
theorem dX7_putRoute_70 : decode cX7_putRoute 70 = .ok (.invokevirtual 97, 3) := by decide +kernel
theorem dX7_putRoute_73 : decode cX7_putRoute 73 = .ok (.pop, 1) := by decide +kernel
theorem dX7_putRoute_74 : decode cX7_putRoute 74 = .ok (.iconst 1, 1) := by decide +kernel
theorem dX7_putRoute_75 : decode cX7_putRoute 75 = .ok (.ireturn, 1) := by decide +kernel
theorem dX7_putPort_0 : decode cX7_putPort 0 = .ok (.aload_n 2, 1) := by decide +kernel
theorem dX7_putPort_1 : decode cX7_putPort 1 = .ok (.aload_n 0, 1) := by decide +kernel
theorem dX7_putPort_2 : decode cX7_putPort 2 = .ok (.getfield 25, 3) := by decide +kernel
theorem dX7_putPort_5 : decode cX7_putPort 5 = .ok (.iload_n 1, 1) := by decide +kernel
theorem dX7_putPort_6 : decode cX7_putPort 6 = .ok (.iaload, 1) := by decide +kernel
theorem dX7_putPort_7 : decode cX7_putPort 7 = .ok (.aload_n 0, 1) := by decide +kernel
theorem dX7_putPort_8 : decode cX7_putPort 8 = .ok (.getfield 18, 3) := by decide +kernel
theorem dX7_putPort_11 : decode cX7_putPort 11 = .ok (.iload_n 1, 1) := by decide +kernel
theorem dX7_putPort_12 : decode cX7_putPort 12 = .ok (.iaload, 1) := by decide +kernel
theorem dX7_putPort_13 : decode cX7_putPort 13 = .ok (.invokevirtual 102, 3) := by decide +kernel
theorem dX7_putPort_16 : decode cX7_putPort 16 = .ok (.ifCond .eq 5, 3) := by decide +kernel
theorem dX7_putPort_19 : decode cX7_putPort 19 = .ok (.iconst 0, 1) := by decide +kernel
theorem dX7_putPort_20 : decode cX7_putPort 20 = .ok (.ireturn, 1) := by decide +kernel
theorem dX7_putPort_21 : decode cX7_putPort 21 = .ok (.aload_n 2, 1) := by decide +kernel
theorem dX7_putPort_22 : decode cX7_putPort 22 = .ok (.invokevirtual 106, 3) := by decide +kernel
theorem dX7_putPort_25 : decode cX7_putPort 25 = .ok (.aload_n 0, 1) := by decide +kernel
theorem dX7_putPort_26 : decode cX7_putPort 26 = .ok (.getfield 25, 3) := by decide +kernel
theorem dX7_putPort_29 : decode cX7_putPort 29 = .ok (.iload_n 1, 1) := by decide +kernel
theorem dX7_putPort_30 : decode cX7_putPort 30 = .ok (.iaload, 1) := by decide +kernel
theorem dX7_putPort_31 : decode cX7_putPort 31 = .ok (.aload_n 0, 1) := by decide +kernel
theorem dX7_putPort_32 : decode cX7_putPort 32 = .ok (.getfield 18, 3) := by decide +kernel
theorem dX7_putPort_35 : decode cX7_putPort 35 = .ok (.iload_n 1, 1) := by decide +kernel
theorem dX7_putPort_36 : decode cX7_putPort 36 = .ok (.iaload, 1) := by decide +kernel
theorem dX7_putPort_37 : decode cX7_putPort 37 = .ok (.invokevirtual 110, 3) := by decide +kernel
theorem dX7_putPort_40 : decode cX7_putPort 40 = .ok (.pop, 1) := by decide +kernel
theorem dX7_putPort_41 : decode cX7_putPort 41 = .ok (.iconst 1, 1) := by decide +kernel
theorem dX7_putPort_42 : decode cX7_putPort 42 = .ok (.ireturn, 1) := by decide +kernel
theorem dX7_letLookUp_0 : decode cX7_letLookUp 0 = .ok (.aload_n 2, 1) := by decide +kernel
theorem dX7_letLookUp_1 : decode cX7_letLookUp 1 = .ok (.aload_n 0, 1) := by decide +kernel
theorem dX7_letLookUp_2 : decode cX7_letLookUp 2 = .ok (.getfield 18, 3) := by decide +kernel
theorem dX7_letLookUp_5 : decode cX7_letLookUp 5 = .ok (.iload_n 1, 1) := by decide +kernel
theorem dX7_letLookUp_6 : decode cX7_letLookUp 6 = .ok (.iaload, 1) := by decide +kernel
theorem dX7_letLookUp_7 : decode cX7_letLookUp 7 = .ok (.invokevirtual 114, 3) := by decide +kernel
theorem dX7_letLookUp_10 : decode cX7_letLookUp 10 = .ok (.ifCond .ne 5, 3) := by decide +kernel
theorem dX7_letLookUp_13 : decode cX7_letLookUp 13 = .ok (.iconst 0, 1) := by decide +kernel
theorem dX7_letLookUp_14 : decode cX7_letLookUp 14 = .ok (.ireturn, 1) := by decide +kernel
theorem dX7_letLookUp_15 : decode cX7_letLookUp 15 = .ok (.aload_n 2, 1) := by decide +kernel
theorem dX7_letLookUp_16 : decode cX7_letLookUp 16 = .ok (.aload_n 0, 1) := by decide +kernel
theorem dX7_letLookUp_17 : decode cX7_letLookUp 17 = .ok (.getfield 18, 3) := by decide +kernel
theorem dX7_letLookUp_20 : decode cX7_letLookUp 20 = .ok (.iload_n 1, 1) := by decide +kernel
theorem dX7_letLookUp_21 : decode cX7_letLookUp 21 = .ok (.iaload, 1) := by decide +kernel
theorem dX7_letLookUp_22 : decode cX7_letLookUp 22 = .ok (.iconst 1, 1) := by decide +kernel
theorem dX7_letLookUp_23 : decode cX7_letLookUp 23 = .ok (.invokevirtual 117, 3) := by decide +kernel
theorem dX7_letLookUp_26 : decode cX7_letLookUp 26 = .ok (.iconst 1, 1) := by decide +kernel
theorem dX7_letLookUp_27 : decode cX7_letLookUp 27 = .ok (.ireturn, 1) := by decide +kernel
theorem dX8_init_0 : decode cX8_init 0 = .ok (.aload_n 0, 1) := by decide +kernel
theorem dX8_init_1 : decode cX8_init 1 = .ok (.invokespecial 3, 3) := by decide +kernel
theorem dX8_init_4 : decode cX8_init 4 = .ok (.aload_n 0, 1) := by decide +kernel
theorem dX8_init_5 : decode cX8_init 5 = .ok (.bipush 30, 2) := by decide +kernel
theorem dX8_init_7 : decode cX8_init 7 = .ok (.newarray .int, 2) := by decide +kernel
theorem dX8_init_9 : decode cX8_init 9 = .ok (.putfield 9, 3) := by decide +kernel
theorem dX8_init_12 : decode cX8_init 12 = .ok (.aload_n 0, 1) := by decide +kernel
theorem dX8_init_13 : decode cX8_init 13 = .ok (.bipush 30, 2) := by decide +kernel
theorem dX8_init_15 : decode cX8_init 15 = .ok (.newarray .int, 2) := by decide +kernel
theorem dX8_init_17 : decode cX8_init 17 = .ok (.putfield 15, 3) := by decide +kernel
theorem dX8_init_20 : decode cX8_init 20 = .ok (.aload_n 0, 1) := by decide +kernel
theorem dX8_init_21 : decode cX8_init 21 = .ok (.iconst 0, 1) := by decide +kernel
theorem dX8_init_22 : decode cX8_init 22 = .ok (.putfield 18, 3) := by decide +kernel
theorem dX8_init_25 : decode cX8_init 25 = .ok (.return_, 1) := by decide +kernel
theorem dX8_size_0 : decode cX8_size 0 = .ok (.aload_n 0, 1) := by decide +kernel
theorem dX8_size_1 : decode cX8_size 1 = .ok (.getfield 18, 3) := by decide +kernel
theorem dX8_size_4 : decode cX8_size 4 = .ok (.ireturn, 1) := by decide +kernel
theorem dX8_has_0 : decode cX8_has 0 = .ok (.iload_n 1, 1) := by decide +kernel
theorem dX8_has_1 : decode cX8_has 1 = .ok (.ifCond .lt 21, 3) := by decide +kernel
theorem dX8_has_4 : decode cX8_has 4 = .ok (.iload_n 1, 1) := by decide +kernel
theorem dX8_has_5 : decode cX8_has 5 = .ok (.aload_n 0, 1) := by decide +kernel
theorem dX8_has_6 : decode cX8_has 6 = .ok (.getfield 18, 3) := by decide +kernel
theorem dX8_has_9 : decode cX8_has 9 = .ok (.if_icmp .ge 13, 3) := by decide +kernel
theorem dX8_has_12 : decode cX8_has 12 = .ok (.iload_n 1, 1) := by decide +kernel
theorem dX8_has_13 : decode cX8_has 13 = .ok (.bipush 30, 2) := by decide +kernel
theorem dX8_has_15 : decode cX8_has 15 = .ok (.if_icmp .ge 7, 3) := by decide +kernel
theorem dX8_has_18 : decode cX8_has 18 = .ok (.iconst 1, 1) := by decide +kernel
theorem dX8_has_19 : decode cX8_has 19 = .ok (.goto 4, 3) := by decide +kernel
theorem dX8_has_22 : decode cX8_has 22 = .ok (.iconst 0, 1) := by decide +kernel
theorem dX8_has_23 : decode cX8_has 23 = .ok (.ireturn, 1) := by decide +kernel
theorem dX8_empty_0 : decode cX8_empty 0 = .ok (.aload_n 0, 1) := by decide +kernel
theorem dX8_empty_1 : decode cX8_empty 1 = .ok (.iconst 0, 1) := by decide +kernel
theorem dX8_empty_2 : decode cX8_empty 2 = .ok (.putfield 18, 3) := by decide +kernel
theorem dX8_empty_5 : decode cX8_empty 5 = .ok (.return_, 1) := by decide +kernel
theorem dX8_begin_0 : decode cX8_begin 0 = .ok (.aload_n 0, 1) := by decide +kernel
theorem dX8_begin_1 : decode cX8_begin 1 = .ok (.getfield 18, 3) := by decide +kernel
theorem dX8_begin_4 : decode cX8_begin 4 = .ok (.bipush 30, 2) := by decide +kernel
theorem dX8_begin_6 : decode cX8_begin 6 = .ok (.if_icmp .lt 6, 3) := by decide +kernel
theorem dX8_begin_9 : decode cX8_begin 9 = .ok (.bipush (-9), 2) := by decide +kernel
theorem dX8_begin_11 : decode cX8_begin 11 = .ok (.ireturn, 1) := by decide +kernel
theorem dX8_begin_12 : decode cX8_begin 12 = .ok (.aload_n 0, 1) := by decide +kernel
theorem dX8_begin_13 : decode cX8_begin 13 = .ok (.getfield 9, 3) := by decide +kernel
theorem dX8_begin_16 : decode cX8_begin 16 = .ok (.aload_n 0, 1) := by decide +kernel
theorem dX8_begin_17 : decode cX8_begin 17 = .ok (.getfield 18, 3) := by decide +kernel
theorem dX8_begin_20 : decode cX8_begin 20 = .ok (.iload_n 1, 1) := by decide +kernel
theorem dX8_begin_21 : decode cX8_begin 21 = .ok (.iastore, 1) := by decide +kernel
theorem dX8_begin_22 : decode cX8_begin 22 = .ok (.aload_n 0, 1) := by decide +kernel
theorem dX8_begin_23 : decode cX8_begin 23 = .ok (.dup, 1) := by decide +kernel
theorem dX8_begin_24 : decode cX8_begin 24 = .ok (.getfield 18, 3) := by decide +kernel
theorem dX8_begin_27 : decode cX8_begin 27 = .ok (.iconst 1, 1) := by decide +kernel
theorem dX8_begin_28 : decode cX8_begin 28 = .ok (.iadd, 1) := by decide +kernel
theorem dX8_begin_29 : decode cX8_begin 29 = .ok (.putfield 18, 3) := by decide +kernel
theorem dX8_begin_32 : decode cX8_begin 32 = .ok (.aload_n 0, 1) := by decide +kernel
theorem dX8_begin_33 : decode cX8_begin 33 = .ok (.getfield 18, 3) := by decide +kernel
theorem dX8_begin_36 : decode cX8_begin 36 = .ok (.iconst 1, 1) := by decide +kernel
theorem dX8_begin_37 : decode cX8_begin 37 = .ok (.isub, 1) := by decide +kernel
theorem dX8_begin_38 : decode cX8_begin 38 = .ok (.ireturn, 1) := by decide +kernel
theorem dX8_finish_0 : decode cX8_finish 0 = .ok (.aload_n 0, 1) := by decide +kernel
theorem dX8_finish_1 : decode cX8_finish 1 = .ok (.iload_n 1, 1) := by decide +kernel
theorem dX8_finish_2 : decode cX8_finish 2 = .ok (.invokevirtual 22, 3) := by decide +kernel
theorem dX8_finish_5 : decode cX8_finish 5 = .ok (.ifCond .eq 10, 3) := by decide +kernel
theorem dX8_finish_8 : decode cX8_finish 8 = .ok (.aload_n 0, 1) := by decide +kernel
theorem dX8_finish_9 : decode cX8_finish 9 = .ok (.getfield 15, 3) := by decide +kernel
theorem dX8_finish_12 : decode cX8_finish 12 = .ok (.iload_n 1, 1) := by decide +kernel
theorem dX8_finish_13 : decode cX8_finish 13 = .ok (.iload_n 2, 1) := by decide +kernel
theorem dX8_finish_14 : decode cX8_finish 14 = .ok (.iastore, 1) := by decide +kernel
theorem dX8_finish_15 : decode cX8_finish 15 = .ok (.return_, 1) := by decide +kernel
theorem dX8_routeAt_0 : decode cX8_routeAt 0 = .ok (.aload_n 0, 1) := by decide +kernel
theorem dX8_routeAt_1 : decode cX8_routeAt 1 = .ok (.iload_n 1, 1) := by decide +kernel
theorem dX8_routeAt_2 : decode cX8_routeAt 2 = .ok (.invokevirtual 22, 3) := by decide +kernel
theorem dX8_routeAt_5 : decode cX8_routeAt 5 = .ok (.ifCond .eq 12, 3) := by decide +kernel
theorem dX8_routeAt_8 : decode cX8_routeAt 8 = .ok (.aload_n 0, 1) := by decide +kernel
theorem dX8_routeAt_9 : decode cX8_routeAt 9 = .ok (.getfield 9, 3) := by decide +kernel
theorem dX8_routeAt_12 : decode cX8_routeAt 12 = .ok (.iload_n 1, 1) := by decide +kernel
theorem dX8_routeAt_13 : decode cX8_routeAt 13 = .ok (.iaload, 1) := by decide +kernel
theorem dX8_routeAt_14 : decode cX8_routeAt 14 = .ok (.goto 5, 3) := by decide +kernel
theorem dX8_routeAt_17 : decode cX8_routeAt 17 = .ok (.bipush (-9), 2) := by decide +kernel
theorem dX8_routeAt_19 : decode cX8_routeAt 19 = .ok (.ireturn, 1) := by decide +kernel
theorem dX8_codeAt_0 : decode cX8_codeAt 0 = .ok (.aload_n 0, 1) := by decide +kernel
theorem dX8_codeAt_1 : decode cX8_codeAt 1 = .ok (.iload_n 1, 1) := by decide +kernel
theorem dX8_codeAt_2 : decode cX8_codeAt 2 = .ok (.invokevirtual 22, 3) := by decide +kernel
theorem dX8_codeAt_5 : decode cX8_codeAt 5 = .ok (.ifCond .eq 12, 3) := by decide +kernel
theorem dX8_codeAt_8 : decode cX8_codeAt 8 = .ok (.aload_n 0, 1) := by decide +kernel
theorem dX8_codeAt_9 : decode cX8_codeAt 9 = .ok (.getfield 15, 3) := by decide +kernel
theorem dX8_codeAt_12 : decode cX8_codeAt 12 = .ok (.iload_n 1, 1) := by decide +kernel
theorem dX8_codeAt_13 : decode cX8_codeAt 13 = .ok (.iaload, 1) := by decide +kernel
theorem dX8_codeAt_14 : decode cX8_codeAt 14 = .ok (.goto 5, 3) := by decide +kernel
theorem dX8_codeAt_17 : decode cX8_codeAt 17 = .ok (.bipush (-9), 2) := by decide +kernel
theorem dX8_codeAt_19 : decode cX8_codeAt 19 = .ok (.ireturn, 1) := by decide +kernel
theorem dX9_init_0 : decode cX9_init 0 = .ok (.aload_n 0, 1) := by decide +kernel
theorem dX9_init_1 : decode cX9_init 1 = .ok (.invokespecial 1, 3) := by decide +kernel
theorem dX9_init_4 : decode cX9_init 4 = .ok (.aload_n 0, 1) := by decide +kernel
theorem dX9_init_5 : decode cX9_init 5 = .ok (.new 7, 3) := by decide +kernel
theorem dX9_init_8 : decode cX9_init 8 = .ok (.dup, 1) := by decide +kernel
theorem dX9_init_9 : decode cX9_init 9 = .ok (.invokespecial 9, 3) := by decide +kernel
theorem dX9_init_12 : decode cX9_init 12 = .ok (.putfield 10, 3) := by decide +kernel
theorem dX9_init_15 : decode cX9_init 15 = .ok (.aload_n 0, 1) := by decide +kernel
theorem dX9_init_16 : decode cX9_init 16 = .ok (.new 7, 3) := by decide +kernel
theorem dX9_init_19 : decode cX9_init 19 = .ok (.dup, 1) := by decide +kernel
theorem dX9_init_20 : decode cX9_init 20 = .ok (.invokespecial 9, 3) := by decide +kernel
theorem dX9_init_23 : decode cX9_init 23 = .ok (.putfield 16, 3) := by decide +kernel
theorem dX9_init_26 : decode cX9_init 26 = .ok (.aload_n 0, 1) := by decide +kernel
theorem dX9_init_27 : decode cX9_init 27 = .ok (.new 19, 3) := by decide +kernel
theorem dX9_init_30 : decode cX9_init 30 = .ok (.dup, 1) := by decide +kernel
theorem dX9_init_31 : decode cX9_init 31 = .ok (.invokespecial 21, 3) := by decide +kernel
theorem dX9_init_34 : decode cX9_init 34 = .ok (.putfield 22, 3) := by decide +kernel
theorem dX9_init_37 : decode cX9_init 37 = .ok (.aload_n 0, 1) := by decide +kernel
theorem dX9_init_38 : decode cX9_init 38 = .ok (.new 26, 3) := by decide +kernel
theorem dX9_init_41 : decode cX9_init 41 = .ok (.dup, 1) := by decide +kernel
theorem dX9_init_42 : decode cX9_init 42 = .ok (.invokespecial 28, 3) := by decide +kernel
theorem dX9_init_45 : decode cX9_init 45 = .ok (.putfield 29, 3) := by decide +kernel
theorem dX9_init_48 : decode cX9_init 48 = .ok (.aload_n 0, 1) := by decide +kernel
theorem dX9_init_49 : decode cX9_init 49 = .ok (.new 33, 3) := by decide +kernel
theorem dX9_init_52 : decode cX9_init 52 = .ok (.dup, 1) := by decide +kernel
theorem dX9_init_53 : decode cX9_init 53 = .ok (.invokespecial 35, 3) := by decide +kernel
theorem dX9_init_56 : decode cX9_init 56 = .ok (.putfield 36, 3) := by decide +kernel
theorem dX9_init_59 : decode cX9_init 59 = .ok (.aload_n 0, 1) := by decide +kernel
theorem dX9_init_60 : decode cX9_init 60 = .ok (.new 40, 3) := by decide +kernel
theorem dX9_init_63 : decode cX9_init 63 = .ok (.dup, 1) := by decide +kernel
theorem dX9_init_64 : decode cX9_init 64 = .ok (.invokespecial 42, 3) := by decide +kernel
theorem dX9_init_67 : decode cX9_init 67 = .ok (.putfield 43, 3) := by decide +kernel
theorem dX9_init_70 : decode cX9_init 70 = .ok (.return_, 1) := by decide +kernel
theorem dX9_addSwitch_0 : decode cX9_addSwitch 0 = .ok (.aload_n 0, 1) := by decide +kernel
theorem dX9_addSwitch_1 : decode cX9_addSwitch 1 = .ok (.getfield 10, 3) := by decide +kernel
theorem dX9_addSwitch_4 : decode cX9_addSwitch 4 = .ok (.invokevirtual 47, 3) := by decide +kernel
theorem dX9_addSwitch_7 : decode cX9_addSwitch 7 = .ok (.bipush 8, 2) := by decide +kernel
theorem dX9_addSwitch_9 : decode cX9_addSwitch 9 = .ok (.if_icmp .lt 6, 3) := by decide +kernel
theorem dX9_addSwitch_12 : decode cX9_addSwitch 12 = .ok (.bipush (-3), 2) := by decide +kernel
theorem dX9_addSwitch_14 : decode cX9_addSwitch 14 = .ok (.ireturn, 1) := by decide +kernel
theorem dX9_addSwitch_15 : decode cX9_addSwitch 15 = .ok (.aload_n 0, 1) := by decide +kernel
theorem dX9_addSwitch_16 : decode cX9_addSwitch 16 = .ok (.getfield 22, 3) := by decide +kernel
theorem dX9_addSwitch_19 : decode cX9_addSwitch 19 = .ok (.aload_n 0, 1) := by decide +kernel
theorem dX9_addSwitch_20 : decode cX9_addSwitch 20 = .ok (.getfield 10, 3) := by decide +kernel
theorem dX9_addSwitch_23 : decode cX9_addSwitch 23 = .ok (.invokevirtual 51, 3) := by decide +kernel
theorem dX9_addSwitch_26 : decode cX9_addSwitch 26 = .ok (.aload_n 0, 1) := by decide +kernel
theorem dX9_addSwitch_27 : decode cX9_addSwitch 27 = .ok (.getfield 10, 3) := by decide +kernel
theorem dX9_addSwitch_30 : decode cX9_addSwitch 30 = .ok (.invokevirtual 55, 3) := by decide +kernel
theorem dX9_addSwitch_33 : decode cX9_addSwitch 33 = .ok (.ireturn, 1) := by decide +kernel
theorem dX9_setLookup_0 : decode cX9_setLookup 0 = .ok (.aload_n 0, 1) := by decide +kernel
theorem dX9_setLookup_1 : decode cX9_setLookup 1 = .ok (.getfield 10, 3) := by decide +kernel
theorem dX9_setLookup_4 : decode cX9_setLookup 4 = .ok (.iload_n 1, 1) := by decide +kernel
theorem dX9_setLookup_5 : decode cX9_setLookup 5 = .ok (.invokevirtual 58, 3) := by decide +kernel
theorem dX9_setLookup_8 : decode cX9_setLookup 8 = .ok (.ifCond .ne 5, 3) := by decide +kernel
theorem dX9_setLookup_11 : decode cX9_setLookup 11 = .ok (.iconst (-1), 1) := by decide +kernel
theorem dX9_setLookup_12 : decode cX9_setLookup 12 = .ok (.ireturn, 1) := by decide +kernel
theorem dX9_setLookup_13 : decode cX9_setLookup 13 = .ok (.aload_n 0, 1) := by decide +kernel
theorem dX9_setLookup_14 : decode cX9_setLookup 14 = .ok (.getfield 22, 3) := by decide +kernel
theorem dX9_setLookup_17 : decode cX9_setLookup 17 = .ok (.aload_n 0, 1) := by decide +kernel
theorem dX9_setLookup_18 : decode cX9_setLookup 18 = .ok (.getfield 10, 3) := by decide +kernel
theorem dX9_setLookup_21 : decode cX9_setLookup 21 = .ok (.invokevirtual 51, 3) := by decide +kernel
theorem dX9_setLookup_24 : decode cX9_setLookup 24 = .ok (.aload_n 0, 1) := by decide +kernel
theorem dX9_setLookup_25 : decode cX9_setLookup 25 = .ok (.getfield 10, 3) := by decide +kernel
theorem dX9_setLookup_28 : decode cX9_setLookup 28 = .ok (.iload_n 1, 1) := by decide +kernel
theorem dX9_setLookup_29 : decode cX9_setLookup 29 = .ok (.invokevirtual 62, 3) := by decide +kernel
theorem dX9_setLookup_32 : decode cX9_setLookup 32 = .ok (.istore_n 3, 1) := by decide +kernel
theorem dX9_setLookup_33 : decode cX9_setLookup 33 = .ok (.aload_n 0, 1) := by decide +kernel
theorem dX9_setLookup_34 : decode cX9_setLookup 34 = .ok (.getfield 10, 3) := by decide +kernel
theorem dX9_setLookup_37 : decode cX9_setLookup 37 = .ok (.iload_n 1, 1) := by decide +kernel
theorem dX9_setLookup_38 : decode cX9_setLookup 38 = .ok (.iload_n 2, 1) := by decide +kernel
theorem dX9_setLookup_39 : decode cX9_setLookup 39 = .ok (.invokevirtual 65, 3) := by decide +kernel
theorem dX9_setLookup_42 : decode cX9_setLookup 42 = .ok (.iload_n 3, 1) := by decide +kernel
theorem dX9_setLookup_43 : decode cX9_setLookup 43 = .ok (.ifCond .eq 7, 3) := by decide +kernel
theorem dX9_setLookup_46 : decode cX9_setLookup 46 = .ok (.iconst 1, 1) := by decide +kernel
theorem dX9_setLookup_47 : decode cX9_setLookup 47 = .ok (.goto 4, 3) := by decide +kernel
theorem dX9_setLookup_50 : decode cX9_setLookup 50 = .ok (.iconst 0, 1) := by decide +kernel
theorem dX9_setLookup_51 : decode cX9_setLookup 51 = .ok (.ireturn, 1) := by decide +kernel
theorem dX9_setCodes_0 : decode cX9_setCodes 0 = .ok (.aload_n 0, 1) := by decide +kernel
theorem dX9_setCodes_1 : decode cX9_setCodes 1 = .ok (.getfield 10, 3) := by decide +kernel
theorem dX9_setCodes_4 : decode cX9_setCodes 4 = .ok (.iload_n 1, 1) := by decide +kernel
theorem dX9_setCodes_5 : decode cX9_setCodes 5 = .ok (.invokevirtual 58, 3) := by decide +kernel
theorem dX9_setCodes_8 : decode cX9_setCodes 8 = .ok (.ifCond .eq 19, 3) := by decide +kernel
theorem dX9_setCodes_11 : decode cX9_setCodes 11 = .ok (.iload_n 2, 1) := by decide +kernel
theorem dX9_setCodes_12 : decode cX9_setCodes 12 = .ok (.iconst 0, 1) := by decide +kernel
theorem dX9_setCodes_13 : decode cX9_setCodes 13 = .ok (.bipush 62, 2) := by decide +kernel
theorem dX9_setCodes_15 : decode cX9_setCodes 15 = .ok (.invokestatic 69, 3) := by decide +kernel
theorem dX9_setCodes_18 : decode cX9_setCodes 18 = .ok (.ifCond .eq 9, 3) := by decide +kernel
theorem dX9_setCodes_21 : decode cX9_setCodes 21 = .ok (.iload_n 2, 1) := by decide +kernel
theorem dX9_setCodes_22 : decode cX9_setCodes 22 = .ok (.iconst 1, 1) := by decide +kernel
theorem dX9_setCodes_23 : decode cX9_setCodes 23 = .ok (.iand, 1) := by decide +kernel
theorem dX9_setCodes_24 : decode cX9_setCodes 24 = .ok (.ifCond .eq 5, 3) := by decide +kernel
theorem dX9_setCodes_27 : decode cX9_setCodes 27 = .ok (.iconst (-1), 1) := by decide +kernel
theorem dX9_setCodes_28 : decode cX9_setCodes 28 = .ok (.ireturn, 1) := by decide +kernel
theorem dX9_setCodes_29 : decode cX9_setCodes 29 = .ok (.aload_n 0, 1) := by decide +kernel
theorem dX9_setCodes_30 : decode cX9_setCodes 30 = .ok (.getfield 22, 3) := by decide +kernel
theorem dX9_setCodes_33 : decode cX9_setCodes 33 = .ok (.aload_n 0, 1) := by decide +kernel
theorem dX9_setCodes_34 : decode cX9_setCodes 34 = .ok (.getfield 10, 3) := by decide +kernel
theorem dX9_setCodes_37 : decode cX9_setCodes 37 = .ok (.invokevirtual 51, 3) := by decide +kernel
theorem dX9_setCodes_40 : decode cX9_setCodes 40 = .ok (.aload_n 0, 1) := by decide +kernel
theorem dX9_setCodes_41 : decode cX9_setCodes 41 = .ok (.getfield 10, 3) := by decide +kernel
theorem dX9_setCodes_44 : decode cX9_setCodes 44 = .ok (.iload_n 1, 1) := by decide +kernel
theorem dX9_setCodes_45 : decode cX9_setCodes 45 = .ok (.iload_n 2, 1) := by decide +kernel
theorem dX9_setCodes_46 : decode cX9_setCodes 46 = .ok (.invokevirtual 73, 3) := by decide +kernel
theorem dX9_setCodes_49 : decode cX9_setCodes 49 = .ok (.ireturn, 1) := by decide +kernel
theorem dX9_setLimit_0 : decode cX9_setLimit 0 = .ok (.iload_n 1, 1) := by decide +kernel
theorem dX9_setLimit_1 : decode cX9_setLimit 1 = .ok (.iconst 1, 1) := by decide +kernel
theorem dX9_setLimit_2 : decode cX9_setLimit 2 = .ok (.bipush 6, 2) := by decide +kernel
theorem dX9_setLimit_4 : decode cX9_setLimit 4 = .ok (.invokestatic 69, 3) := by decide +kernel
theorem dX9_setLimit_7 : decode cX9_setLimit 7 = .ok (.ifCond .ne 5, 3) := by decide +kernel
theorem dX9_setLimit_10 : decode cX9_setLimit 10 = .ok (.iconst (-1), 1) := by decide +kernel
theorem dX9_setLimit_11 : decode cX9_setLimit 11 = .ok (.ireturn, 1) := by decide +kernel
theorem dX9_setLimit_12 : decode cX9_setLimit 12 = .ok (.aload_n 0, 1) := by decide +kernel
theorem dX9_setLimit_13 : decode cX9_setLimit 13 = .ok (.getfield 22, 3) := by decide +kernel
theorem dX9_setLimit_16 : decode cX9_setLimit 16 = .ok (.aload_n 0, 1) := by decide +kernel
theorem dX9_setLimit_17 : decode cX9_setLimit 17 = .ok (.getfield 10, 3) := by decide +kernel
theorem dX9_setLimit_20 : decode cX9_setLimit 20 = .ok (.invokevirtual 51, 3) := by decide +kernel
theorem dX9_setLimit_23 : decode cX9_setLimit 23 = .ok (.aload_n 0, 1) := by decide +kernel
theorem dX9_setLimit_24 : decode cX9_setLimit 24 = .ok (.getfield 10, 3) := by decide +kernel
theorem dX9_setLimit_27 : decode cX9_setLimit 27 = .ok (.iload_n 1, 1) := by decide +kernel
theorem dX9_setLimit_28 : decode cX9_setLimit 28 = .ok (.invokevirtual 77, 3) := by decide +kernel
theorem dX9_setLimit_31 : decode cX9_setLimit 31 = .ok (.ireturn, 1) := by decide +kernel
theorem dX9_addRoute_0 : decode cX9_addRoute 0 = .ok (.aload_n 0, 1) := by decide +kernel
theorem dX9_addRoute_1 : decode cX9_addRoute 1 = .ok (.getfield 10, 3) := by decide +kernel
theorem dX9_addRoute_4 : decode cX9_addRoute 4 = .ok (.iload_n 1, 1) := by decide +kernel
theorem dX9_addRoute_5 : decode cX9_addRoute 5 = .ok (.iload_n 2, 1) := by decide +kernel
theorem dX9_addRoute_6 : decode cX9_addRoute 6 = .ok (.iload_n 3, 1) := by decide +kernel
theorem dX9_addRoute_7 : decode cX9_addRoute 7 = .ok (.iload 4, 2) := by decide +kernel
theorem dX9_addRoute_9 : decode cX9_addRoute 9 = .ok (.iload 5, 2) := by decide +kernel
theorem dX9_addRoute_11 : decode cX9_addRoute 11 = .ok (.invokevirtual 81, 3) := by decide +kernel
theorem dX9_addRoute_14 : decode cX9_addRoute 14 = .ok (.istore 6, 2) := by decide +kernel
theorem dX9_addRoute_16 : decode cX9_addRoute 16 = .ok (.iload 6, 2) := by decide +kernel
theorem dX9_addRoute_18 : decode cX9_addRoute 18 = .ok (.ifCond .eq 6, 3) := by decide +kernel
theorem dX9_addRoute_21 : decode cX9_addRoute 21 = .ok (.iload 6, 2) := by decide +kernel
theorem dX9_addRoute_23 : decode cX9_addRoute 23 = .ok (.ireturn, 1) := by decide +kernel
theorem dX9_addRoute_24 : decode cX9_addRoute 24 = .ok (.aload_n 0, 1) := by decide +kernel
theorem dX9_addRoute_25 : decode cX9_addRoute 25 = .ok (.getfield 22, 3) := by decide +kernel
theorem dX9_addRoute_28 : decode cX9_addRoute 28 = .ok (.aload_n 0, 1) := by decide +kernel
theorem dX9_addRoute_29 : decode cX9_addRoute 29 = .ok (.getfield 10, 3) := by decide +kernel
theorem dX9_addRoute_32 : decode cX9_addRoute 32 = .ok (.invokevirtual 51, 3) := by decide +kernel
theorem dX9_addRoute_35 : decode cX9_addRoute 35 = .ok (.aload_n 0, 1) := by decide +kernel
theorem dX9_addRoute_36 : decode cX9_addRoute 36 = .ok (.getfield 10, 3) := by decide +kernel
theorem dX9_addRoute_39 : decode cX9_addRoute 39 = .ok (.invokevirtual 85, 3) := by decide +kernel
theorem dX9_addRoute_42 : decode cX9_addRoute 42 = .ok (.iload_n 1, 1) := by decide +kernel
theorem dX9_addRoute_43 : decode cX9_addRoute 43 = .ok (.iload_n 2, 1) := by decide +kernel
theorem dX9_addRoute_44 : decode cX9_addRoute 44 = .ok (.iload_n 3, 1) := by decide +kernel
theorem dX9_addRoute_45 : decode cX9_addRoute 45 = .ok (.iload 4, 2) := by decide +kernel
theorem dX9_addRoute_47 : decode cX9_addRoute 47 = .ok (.iload 5, 2) := by decide +kernel
theorem dX9_addRoute_49 : decode cX9_addRoute 49 = .ok (.invokevirtual 89, 3) := by decide +kernel
theorem dX9_addRoute_52 : decode cX9_addRoute 52 = .ok (.ireturn, 1) := by decide +kernel
theorem dX9_setCost_0 : decode cX9_setCost 0 = .ok (.aload_n 0, 1) := by decide +kernel
theorem dX9_setCost_1 : decode cX9_setCost 1 = .ok (.getfield 10, 3) := by decide +kernel
theorem dX9_setCost_4 : decode cX9_setCost 4 = .ok (.invokevirtual 85, 3) := by decide +kernel
theorem dX9_setCost_7 : decode cX9_setCost 7 = .ok (.iload_n 1, 1) := by decide +kernel
theorem dX9_setCost_8 : decode cX9_setCost 8 = .ok (.invokevirtual 94, 3) := by decide +kernel
theorem dX9_setCost_11 : decode cX9_setCost 11 = .ok (.ifCond .eq 23, 3) := by decide +kernel
theorem dX9_setCost_14 : decode cX9_setCost 14 = .ok (.iload_n 2, 1) := by decide +kernel
theorem dX9_setCost_15 : decode cX9_setCost 15 = .ok (.iconst 0, 1) := by decide +kernel
theorem dX9_setCost_16 : decode cX9_setCost 16 = .ok (.iconst 2, 1) := by decide +kernel
theorem dX9_setCost_17 : decode cX9_setCost 17 = .ok (.invokestatic 69, 3) := by decide +kernel
theorem dX9_setCost_20 : decode cX9_setCost 20 = .ok (.ifCond .eq 14, 3) := by decide +kernel
theorem dX9_setCost_23 : decode cX9_setCost 23 = .ok (.iload_n 3, 1) := by decide +kernel
theorem dX9_setCost_24 : decode cX9_setCost 24 = .ok (.iconst 0, 1) := by decide +kernel
theorem dX9_setCost_25 : decode cX9_setCost 25 = .ok (.sipush 1000, 3) := by decide +kernel
theorem dX9_setCost_28 : decode cX9_setCost 28 = .ok (.invokestatic 69, 3) := by decide +kernel
theorem dX9_setCost_31 : decode cX9_setCost 31 = .ok (.ifCond .ne 5, 3) := by decide +kernel
theorem dX9_setCost_34 : decode cX9_setCost 34 = .ok (.iconst (-1), 1) := by decide +kernel
theorem dX9_setCost_35 : decode cX9_setCost 35 = .ok (.ireturn, 1) := by decide +kernel
theorem dX9_setCost_36 : decode cX9_setCost 36 = .ok (.aload_n 0, 1) := by decide +kernel
theorem dX9_setCost_37 : decode cX9_setCost 37 = .ok (.getfield 22, 3) := by decide +kernel
theorem dX9_setCost_40 : decode cX9_setCost 40 = .ok (.aload_n 0, 1) := by decide +kernel
theorem dX9_setCost_41 : decode cX9_setCost 41 = .ok (.getfield 10, 3) := by decide +kernel
theorem dX9_setCost_44 : decode cX9_setCost 44 = .ok (.invokevirtual 51, 3) := by decide +kernel
theorem dX9_setCost_47 : decode cX9_setCost 47 = .ok (.aload_n 0, 1) := by decide +kernel
theorem dX9_setCost_48 : decode cX9_setCost 48 = .ok (.getfield 10, 3) := by decide +kernel
theorem dX9_setCost_51 : decode cX9_setCost 51 = .ok (.invokevirtual 85, 3) := by decide +kernel
theorem dX9_setCost_54 : decode cX9_setCost 54 = .ok (.iload_n 1, 1) := by decide +kernel
theorem dX9_setCost_55 : decode cX9_setCost 55 = .ok (.iload_n 2, 1) := by decide +kernel
theorem dX9_setCost_56 : decode cX9_setCost 56 = .ok (.iload_n 3, 1) := by decide +kernel
theorem dX9_setCost_57 : decode cX9_setCost 57 = .ok (.invokevirtual 97, 3) := by decide +kernel
theorem dX9_setCost_60 : decode cX9_setCost 60 = .ok (.ireturn, 1) := by decide +kernel
theorem dX9_port_0 : decode cX9_port 0 = .ok (.aload_n 0, 1) := by decide +kernel
theorem dX9_port_1 : decode cX9_port 1 = .ok (.getfield 10, 3) := by decide +kernel
theorem dX9_port_4 : decode cX9_port 4 = .ok (.iload_n 1, 1) := by decide +kernel
theorem dX9_port_5 : decode cX9_port 5 = .ok (.iload_n 2, 1) := by decide +kernel
theorem dX9_port_6 : decode cX9_port 6 = .ok (.invokevirtual 101, 3) := by decide +kernel
theorem dX9_port_9 : decode cX9_port 9 = .ok (.istore_n 3, 1) := by decide +kernel
theorem dX9_port_10 : decode cX9_port 10 = .ok (.iload_n 3, 1) := by decide +kernel
theorem dX9_port_11 : decode cX9_port 11 = .ok (.ifCond .eq 5, 3) := by decide +kernel
theorem dX9_port_14 : decode cX9_port 14 = .ok (.iload_n 3, 1) := by decide +kernel
theorem dX9_port_15 : decode cX9_port 15 = .ok (.ireturn, 1) := by decide +kernel
theorem dX9_port_16 : decode cX9_port 16 = .ok (.aload_n 0, 1) := by decide +kernel
theorem dX9_port_17 : decode cX9_port 17 = .ok (.getfield 22, 3) := by decide +kernel
theorem dX9_port_20 : decode cX9_port 20 = .ok (.aload_n 0, 1) := by decide +kernel
theorem dX9_port_21 : decode cX9_port 21 = .ok (.getfield 10, 3) := by decide +kernel
theorem dX9_port_24 : decode cX9_port 24 = .ok (.invokevirtual 51, 3) := by decide +kernel
theorem dX9_port_27 : decode cX9_port 27 = .ok (.aload_n 0, 1) := by decide +kernel
theorem dX9_port_28 : decode cX9_port 28 = .ok (.getfield 10, 3) := by decide +kernel
theorem dX9_port_31 : decode cX9_port 31 = .ok (.invokevirtual 104, 3) := by decide +kernel
theorem dX9_port_34 : decode cX9_port 34 = .ok (.iload_n 1, 1) := by decide +kernel
theorem dX9_port_35 : decode cX9_port 35 = .ok (.iload_n 2, 1) := by decide +kernel
theorem dX9_port_36 : decode cX9_port 36 = .ok (.invokevirtual 108, 3) := by decide +kernel
theorem dX9_port_39 : decode cX9_port 39 = .ok (.ireturn, 1) := by decide +kernel
theorem dX9_unport_0 : decode cX9_unport 0 = .ok (.iload_n 1, 1) := by decide +kernel
theorem dX9_unport_1 : decode cX9_unport 1 = .ok (.invokestatic 112, 3) := by decide +kernel
theorem dX9_unport_4 : decode cX9_unport 4 = .ok (.ifCond .ne 5, 3) := by decide +kernel
theorem dX9_unport_7 : decode cX9_unport 7 = .ok (.iconst (-1), 1) := by decide +kernel
theorem dX9_unport_8 : decode cX9_unport 8 = .ok (.ireturn, 1) := by decide +kernel
theorem dX9_unport_9 : decode cX9_unport 9 = .ok (.aload_n 0, 1) := by decide +kernel
theorem dX9_unport_10 : decode cX9_unport 10 = .ok (.getfield 10, 3) := by decide +kernel
theorem dX9_unport_13 : decode cX9_unport 13 = .ok (.invokevirtual 104, 3) := by decide +kernel
theorem dX9_unport_16 : decode cX9_unport 16 = .ok (.iload_n 1, 1) := by decide +kernel
theorem dX9_unport_17 : decode cX9_unport 17 = .ok (.invokevirtual 115, 3) := by decide +kernel
theorem dX9_unport_20 : decode cX9_unport 20 = .ok (.bipush (-9), 2) := by decide +kernel
theorem dX9_unport_22 : decode cX9_unport 22 = .ok (.if_icmp .ne 6, 3) := by decide +kernel
theorem dX9_unport_25 : decode cX9_unport 25 = .ok (.bipush (-9), 2) := by decide +kernel
theorem dX9_unport_27 : decode cX9_unport 27 = .ok (.ireturn, 1) := by decide +kernel
theorem dX9_unport_28 : decode cX9_unport 28 = .ok (.aload_n 0, 1) := by decide +kernel
theorem dX9_unport_29 : decode cX9_unport 29 = .ok (.getfield 22, 3) := by decide +kernel
theorem dX9_unport_32 : decode cX9_unport 32 = .ok (.aload_n 0, 1) := by decide +kernel
theorem dX9_unport_33 : decode cX9_unport 33 = .ok (.getfield 10, 3) := by decide +kernel
theorem dX9_unport_36 : decode cX9_unport 36 = .ok (.invokevirtual 51, 3) := by decide +kernel
theorem dX9_unport_39 : decode cX9_unport 39 = .ok (.aload_n 0, 1) := by decide +kernel
theorem dX9_unport_40 : decode cX9_unport 40 = .ok (.getfield 10, 3) := by decide +kernel
theorem dX9_unport_43 : decode cX9_unport 43 = .ok (.invokevirtual 104, 3) := by decide +kernel
theorem dX9_unport_46 : decode cX9_unport 46 = .ok (.iload_n 1, 1) := by decide +kernel
theorem dX9_unport_47 : decode cX9_unport 47 = .ok (.invokevirtual 118, 3) := by decide +kernel
theorem dX9_unport_50 : decode cX9_unport 50 = .ok (.ireturn, 1) := by decide +kernel
theorem dX9_call_0 : decode cX9_call 0 = .ok (.aload_n 0, 1) := by decide +kernel
theorem dX9_call_1 : decode cX9_call 1 = .ok (.getfield 10, 3) := by decide +kernel
theorem dX9_call_4 : decode cX9_call 4 = .ok (.iload_n 1, 1) := by decide +kernel
theorem dX9_call_5 : decode cX9_call 5 = .ok (.invokevirtual 58, 3) := by decide +kernel
theorem dX9_call_8 : decode cX9_call 8 = .ok (.ifCond .eq 10, 3) := by decide +kernel
theorem dX9_call_11 : decode cX9_call 11 = .ok (.iload_n 2, 1) := by decide +kernel
theorem dX9_call_12 : decode cX9_call 12 = .ok (.invokestatic 112, 3) := by decide +kernel
theorem dX9_call_15 : decode cX9_call 15 = .ok (.ifCond .ne 5, 3) := by decide +kernel
theorem dX9_call_18 : decode cX9_call 18 = .ok (.iconst (-1), 1) := by decide +kernel
theorem dX9_call_19 : decode cX9_call 19 = .ok (.ireturn, 1) := by decide +kernel
theorem dX9_call_20 : decode cX9_call 20 = .ok (.aload_n 0, 1) := by decide +kernel
theorem dX9_call_21 : decode cX9_call 21 = .ok (.getfield 10, 3) := by decide +kernel
theorem dX9_call_24 : decode cX9_call 24 = .ok (.invokevirtual 121, 3) := by decide +kernel
theorem dX9_call_27 : decode cX9_call 27 = .ok (.invokevirtual 125, 3) := by decide +kernel
theorem dX9_call_30 : decode cX9_call 30 = .ok (.istore_n 3, 1) := by decide +kernel
theorem dX9_call_31 : decode cX9_call 31 = .ok (.iload_n 3, 1) := by decide +kernel
theorem dX9_call_32 : decode cX9_call 32 = .ok (.bipush (-9), 2) := by decide +kernel
theorem dX9_call_34 : decode cX9_call 34 = .ok (.if_icmp .ne 6, 3) := by decide +kernel
theorem dX9_call_37 : decode cX9_call 37 = .ok (.bipush (-3), 2) := by decide +kernel
theorem dX9_call_39 : decode cX9_call 39 = .ok (.ireturn, 1) := by decide +kernel
theorem dX9_call_40 : decode cX9_call 40 = .ok (.aload_n 0, 1) := by decide +kernel
theorem dX9_call_41 : decode cX9_call 41 = .ok (.getfield 36, 3) := by decide +kernel
theorem dX9_call_44 : decode cX9_call 44 = .ok (.aload_n 0, 1) := by decide +kernel
theorem dX9_call_45 : decode cX9_call 45 = .ok (.getfield 10, 3) := by decide +kernel
theorem dX9_call_48 : decode cX9_call 48 = .ok (.iload_n 1, 1) := by decide +kernel
theorem dX9_call_49 : decode cX9_call 49 = .ok (.iload_n 2, 1) := by decide +kernel
theorem dX9_call_50 : decode cX9_call 50 = .ok (.invokevirtual 130, 3) := by decide +kernel
theorem dX9_call_53 : decode cX9_call 53 = .ok (.istore 4, 2) := by decide +kernel
theorem dX9_call_55 : decode cX9_call 55 = .ok (.iload 4, 2) := by decide +kernel
theorem dX9_call_57 : decode cX9_call 57 = .ok (.ifCond .eq 9, 3) := by decide +kernel
theorem dX9_call_60 : decode cX9_call 60 = .ok (.bipush (-10), 2) := by decide +kernel
theorem dX9_call_62 : decode cX9_call 62 = .ok (.iload 4, 2) := by decide +kernel
theorem dX9_call_64 : decode cX9_call 64 = .ok (.isub, 1) := by decide +kernel
theorem dX9_call_65 : decode cX9_call 65 = .ok (.ireturn, 1) := by decide +kernel
theorem dX9_call_66 : decode cX9_call 66 = .ok (.aload_n 0, 1) := by decide +kernel
theorem dX9_call_67 : decode cX9_call 67 = .ok (.getfield 22, 3) := by decide +kernel
theorem dX9_call_70 : decode cX9_call 70 = .ok (.aload_n 0, 1) := by decide +kernel
theorem dX9_call_71 : decode cX9_call 71 = .ok (.getfield 10, 3) := by decide +kernel
theorem dX9_call_74 : decode cX9_call 74 = .ok (.invokevirtual 51, 3) := by decide +kernel
theorem dX9_call_77 : decode cX9_call 77 = .ok (.aload_n 0, 1) := by decide +kernel
theorem dX9_call_78 : decode cX9_call 78 = .ok (.getfield 10, 3) := by decide +kernel
theorem dX9_call_81 : decode cX9_call 81 = .ok (.iload_n 3, 1) := by decide +kernel
theorem dX9_call_82 : decode cX9_call 82 = .ok (.aload_n 0, 1) := by decide +kernel
theorem dX9_call_83 : decode cX9_call 83 = .ok (.getfield 36, 3) := by decide +kernel
theorem dX9_call_86 : decode cX9_call 86 = .ok (.invokevirtual 134, 3) := by decide +kernel
theorem dX9_call_89 : decode cX9_call 89 = .ok (.iload_n 3, 1) := by decide +kernel
theorem dX9_call_90 : decode cX9_call 90 = .ok (.ireturn, 1) := by decide +kernel
theorem dX9_end_0 : decode cX9_end 0 = .ok (.aload_n 0, 1) := by decide +kernel
theorem dX9_end_1 : decode cX9_end 1 = .ok (.getfield 10, 3) := by decide +kernel
theorem dX9_end_4 : decode cX9_end 4 = .ok (.invokevirtual 121, 3) := by decide +kernel
theorem dX9_end_7 : decode cX9_end 7 = .ok (.iload_n 1, 1) := by decide +kernel
theorem dX9_end_8 : decode cX9_end 8 = .ok (.invokevirtual 138, 3) := by decide +kernel
theorem dX9_end_11 : decode cX9_end 11 = .ok (.ifCond .ne 5, 3) := by decide +kernel
theorem dX9_end_14 : decode cX9_end 14 = .ok (.iconst (-1), 1) := by decide +kernel
theorem dX9_end_15 : decode cX9_end 15 = .ok (.ireturn, 1) := by decide +kernel
theorem dX9_end_16 : decode cX9_end 16 = .ok (.aload_n 0, 1) := by decide +kernel
theorem dX9_end_17 : decode cX9_end 17 = .ok (.getfield 22, 3) := by decide +kernel
theorem dX9_end_20 : decode cX9_end 20 = .ok (.aload_n 0, 1) := by decide +kernel
theorem dX9_end_21 : decode cX9_end 21 = .ok (.getfield 10, 3) := by decide +kernel
theorem dX9_end_24 : decode cX9_end 24 = .ok (.invokevirtual 51, 3) := by decide +kernel
theorem dX9_end_27 : decode cX9_end 27 = .ok (.aload_n 0, 1) := by decide +kernel
theorem dX9_end_28 : decode cX9_end 28 = .ok (.getfield 10, 3) := by decide +kernel
theorem dX9_end_31 : decode cX9_end 31 = .ok (.iload_n 1, 1) := by decide +kernel
theorem dX9_end_32 : decode cX9_end 32 = .ok (.invokevirtual 139, 3) := by decide +kernel
theorem dX9_end_35 : decode cX9_end 35 = .ok (.ireturn, 1) := by decide +kernel
theorem dX9_pass_0 : decode cX9_pass 0 = .ok (.iload_n 1, 1) := by decide +kernel
theorem dX9_pass_1 : decode cX9_pass 1 = .ok (.iconst 1, 1) := by decide +kernel
theorem dX9_pass_2 : decode cX9_pass 2 = .ok (.sipush 10080, 3) := by decide +kernel
theorem dX9_pass_5 : decode cX9_pass 5 = .ok (.invokestatic 69, 3) := by decide +kernel
theorem dX9_pass_8 : decode cX9_pass 8 = .ok (.ifCond .ne 5, 3) := by decide +kernel
theorem dX9_pass_11 : decode cX9_pass 11 = .ok (.iconst (-1), 1) := by decide +kernel
theorem dX9_pass_12 : decode cX9_pass 12 = .ok (.ireturn, 1) := by decide +kernel
theorem dX9_pass_13 : decode cX9_pass 13 = .ok (.aload_n 0, 1) := by decide +kernel
theorem dX9_pass_14 : decode cX9_pass 14 = .ok (.getfield 10, 3) := by decide +kernel
theorem dX9_pass_17 : decode cX9_pass 17 = .ok (.invokevirtual 142, 3) := by decide +kernel
theorem dX9_pass_20 : decode cX9_pass 20 = .ok (.iload_n 1, 1) := by decide +kernel
theorem dX9_pass_21 : decode cX9_pass 21 = .ok (.iadd, 1) := by decide +kernel
theorem dX9_pass_22 : decode cX9_pass 22 = .ok (.ldc 145, 2) := by decide +kernel
theorem dX9_pass_24 : decode cX9_pass 24 = .ok (.if_icmp .le 6, 3) := by decide +kernel
theorem dX9_pass_27 : decode cX9_pass 27 = .ok (.bipush (-2), 2) := by decide +kernel
theorem dX9_pass_29 : decode cX9_pass 29 = .ok (.ireturn, 1) := by decide +kernel
theorem dX9_pass_30 : decode cX9_pass 30 = .ok (.aload_n 0, 1) := by decide +kernel
theorem dX9_pass_31 : decode cX9_pass 31 = .ok (.getfield 22, 3) := by decide +kernel
theorem dX9_pass_34 : decode cX9_pass 34 = .ok (.aload_n 0, 1) := by decide +kernel
theorem dX9_pass_35 : decode cX9_pass 35 = .ok (.getfield 10, 3) := by decide +kernel
theorem dX9_pass_38 : decode cX9_pass 38 = .ok (.invokevirtual 51, 3) := by decide +kernel
theorem dX9_pass_41 : decode cX9_pass 41 = .ok (.aload_n 0, 1) := by decide +kernel
theorem dX9_pass_42 : decode cX9_pass 42 = .ok (.getfield 10, 3) := by decide +kernel
theorem dX9_pass_45 : decode cX9_pass 45 = .ok (.iload_n 1, 1) := by decide +kernel
theorem dX9_pass_46 : decode cX9_pass 46 = .ok (.invokevirtual 146, 3) := by decide +kernel
theorem dX9_pass_49 : decode cX9_pass 49 = .ok (.ireturn, 1) := by decide +kernel
theorem dX9_time_0 : decode cX9_time 0 = .ok (.aload_n 0, 1) := by decide +kernel
theorem dX9_time_1 : decode cX9_time 1 = .ok (.getfield 10, 3) := by decide +kernel
theorem dX9_time_4 : decode cX9_time 4 = .ok (.invokevirtual 142, 3) := by decide +kernel
theorem dX9_time_7 : decode cX9_time 7 = .ok (.ireturn, 1) := by decide +kernel
theorem dX9_band_0 : decode cX9_band 0 = .ok (.aload_n 0, 1) := by decide +kernel
theorem dX9_band_1 : decode cX9_band 1 = .ok (.getfield 10, 3) := by decide +kernel
theorem dX9_band_4 : decode cX9_band 4 = .ok (.invokevirtual 142, 3) := by decide +kernel
theorem dX9_band_7 : decode cX9_band 7 = .ok (.invokestatic 149, 3) := by decide +kernel
theorem dX9_band_10 : decode cX9_band 10 = .ok (.ireturn, 1) := by decide +kernel
theorem dX9_route_0 : decode cX9_route 0 = .ok (.aload_n 0, 1) := by decide +kernel
theorem dX9_route_1 : decode cX9_route 1 = .ok (.getfield 10, 3) := by decide +kernel
theorem dX9_route_4 : decode cX9_route 4 = .ok (.invokevirtual 85, 3) := by decide +kernel
theorem dX9_route_7 : decode cX9_route 7 = .ok (.iload_n 1, 1) := by decide +kernel
theorem dX9_route_8 : decode cX9_route 8 = .ok (.iload_n 2, 1) := by decide +kernel
theorem dX9_route_9 : decode cX9_route 9 = .ok (.invokevirtual 152, 3) := by decide +kernel
theorem dX9_route_12 : decode cX9_route 12 = .ok (.ireturn, 1) := by decide +kernel
theorem dX9_choice_0 : decode cX9_choice 0 = .ok (.aload_n 0, 1) := by decide +kernel
theorem dX9_choice_1 : decode cX9_choice 1 = .ok (.getfield 10, 3) := by decide +kernel
theorem dX9_choice_4 : decode cX9_choice 4 = .ok (.iload_n 1, 1) := by decide +kernel
theorem dX9_choice_5 : decode cX9_choice 5 = .ok (.invokevirtual 58, 3) := by decide +kernel
theorem dX9_choice_8 : decode cX9_choice 8 = .ok (.ifCond .eq 14, 3) := by decide +kernel
theorem dX9_choice_11 : decode cX9_choice 11 = .ok (.iload_n 2, 1) := by decide +kernel
theorem dX9_choice_12 : decode cX9_choice 12 = .ok (.invokestatic 112, 3) := by decide +kernel
theorem dX9_choice_15 : decode cX9_choice 15 = .ok (.ifCond .eq 7, 3) := by decide +kernel
theorem dX9_choice_18 : decode cX9_choice 18 = .ok (.iload_n 3, 1) := by decide +kernel
theorem dX9_choice_19 : decode cX9_choice 19 = .ok (.ifCond .ge 5, 3) := by decide +kernel
theorem dX9_choice_22 : decode cX9_choice 22 = .ok (.iconst (-1), 1) := by decide +kernel
theorem dX9_choice_23 : decode cX9_choice 23 = .ok (.ireturn, 1) := by decide +kernel
theorem dX9_choice_24 : decode cX9_choice 24 = .ok (.aload_n 0, 1) := by decide +kernel
theorem dX9_choice_25 : decode cX9_choice 25 = .ok (.getfield 10, 3) := by decide +kernel
theorem dX9_choice_28 : decode cX9_choice 28 = .ok (.invokevirtual 85, 3) := by decide +kernel
theorem dX9_choice_31 : decode cX9_choice 31 = .ok (.astore 4, 2) := by decide +kernel
theorem dX9_choice_33 : decode cX9_choice 33 = .ok (.aload_n 0, 1) := by decide +kernel
theorem dX9_choice_34 : decode cX9_choice 34 = .ok (.getfield 10, 3) := by decide +kernel
theorem dX9_choice_37 : decode cX9_choice 37 = .ok (.invokevirtual 142, 3) := by decide +kernel
theorem dX9_choice_40 : decode cX9_choice 40 = .ok (.invokestatic 149, 3) := by decide +kernel
theorem dX9_choice_43 : decode cX9_choice 43 = .ok (.istore 5, 2) := by decide +kernel
theorem dX9_choice_45 : decode cX9_choice 45 = .ok (.aload 4, 2) := by decide +kernel
theorem dX9_choice_47 : decode cX9_choice 47 = .ok (.iload_n 1, 1) := by decide +kernel
theorem dX9_choice_48 : decode cX9_choice 48 = .ok (.iload_n 2, 1) := by decide +kernel
theorem dX9_choice_49 : decode cX9_choice 49 = .ok (.bipush (-9), 2) := by decide +kernel
theorem dX9_choice_51 : decode cX9_choice 51 = .ok (.invokestatic 155, 3) := by decide +kernel
theorem dX9_choice_54 : decode cX9_choice 54 = .ok (.invokevirtual 159, 3) := by decide +kernel
theorem dX9_choice_57 : decode cX9_choice 57 = .ok (.istore 6, 2) := by decide +kernel
theorem dX9_choice_59 : decode cX9_choice 59 = .ok (.aload 4, 2) := by decide +kernel
theorem dX9_choice_61 : decode cX9_choice 61 = .ok (.bipush (-9), 2) := by decide +kernel
theorem dX9_choice_63 : decode cX9_choice 63 = .ok (.iload_n 1, 1) := by decide +kernel
theorem dX9_choice_64 : decode cX9_choice 64 = .ok (.iload 6, 2) := by decide +kernel
theorem dX9_choice_66 : decode cX9_choice 66 = .ok (.iload 5, 2) := by decide +kernel
theorem dX9_choice_68 : decode cX9_choice 68 = .ok (.invokevirtual 163, 3) := by decide +kernel
theorem dX9_choice_71 : decode cX9_choice 71 = .ok (.istore 7, 2) := by decide +kernel
theorem dX9_choice_73 : decode cX9_choice 73 = .ok (.iconst 0, 1) := by decide +kernel
theorem dX9_choice_74 : decode cX9_choice 74 = .ok (.istore 8, 2) := by decide +kernel
theorem dX9_choice_76 : decode cX9_choice 76 = .ok (.iload 8, 2) := by decide +kernel
theorem dX9_choice_78 : decode cX9_choice 78 = .ok (.iload_n 3, 1) := by decide +kernel
theorem dX9_choice_79 : decode cX9_choice 79 = .ok (.if_icmp .ge 37, 3) := by decide +kernel
theorem dX9_choice_82 : decode cX9_choice 82 = .ok (.iload 8, 2) := by decide +kernel
theorem dX9_choice_84 : decode cX9_choice 84 = .ok (.bipush 40, 2) := by decide +kernel
theorem dX9_choice_86 : decode cX9_choice 86 = .ok (.if_icmp .ge 30, 3) := by decide +kernel
theorem dX9_choice_89 : decode cX9_choice 89 = .ok (.iload 7, 2) := by decide +kernel
theorem dX9_choice_91 : decode cX9_choice 91 = .ok (.bipush (-9), 2) := by decide +kernel
theorem dX9_choice_93 : decode cX9_choice 93 = .ok (.if_icmp .eq 23, 3) := by decide +kernel
theorem dX9_choice_96 : decode cX9_choice 96 = .ok (.aload 4, 2) := by decide +kernel
theorem dX9_choice_98 : decode cX9_choice 98 = .ok (.iload 7, 2) := by decide +kernel
theorem dX9_choice_100 : decode cX9_choice 100 = .ok (.iload_n 1, 1) := by decide +kernel
theorem dX9_choice_101 : decode cX9_choice 101 = .ok (.iload 6, 2) := by decide +kernel
theorem dX9_choice_103 : decode cX9_choice 103 = .ok (.iload 5, 2) := by decide +kernel
theorem dX9_choice_105 : decode cX9_choice 105 = .ok (.invokevirtual 163, 3) := by decide +kernel
theorem dX9_choice_108 : decode cX9_choice 108 = .ok (.istore 7, 2) := by decide +kernel
theorem dX9_choice_110 : decode cX9_choice 110 = .ok (.iinc 8 1, 3) := by decide +kernel
theorem dX9_choice_113 : decode cX9_choice 113 = .ok (.goto (-37), 3) := by decide +kernel
theorem dX9_choice_116 : decode cX9_choice 116 = .ok (.iload 7, 2) := by decide +kernel
theorem dX9_choice_118 : decode cX9_choice 118 = .ok (.ireturn, 1) := by decide +kernel
theorem dX9_calls_0 : decode cX9_calls 0 = .ok (.aload_n 0, 1) := by decide +kernel
theorem dX9_calls_1 : decode cX9_calls 1 = .ok (.getfield 10, 3) := by decide +kernel
theorem dX9_calls_4 : decode cX9_calls 4 = .ok (.invokevirtual 121, 3) := by decide +kernel
theorem dX9_calls_7 : decode cX9_calls 7 = .ok (.invokevirtual 167, 3) := by decide +kernel
theorem dX9_calls_10 : decode cX9_calls 10 = .ok (.ireturn, 1) := by decide +kernel
theorem dX9_way_0 : decode cX9_way 0 = .ok (.aload_n 0, 1) := by decide +kernel
theorem dX9_way_1 : decode cX9_way 1 = .ok (.getfield 10, 3) := by decide +kernel
theorem dX9_way_4 : decode cX9_way 4 = .ok (.invokevirtual 121, 3) := by decide +kernel
theorem dX9_way_7 : decode cX9_way 7 = .ok (.iload_n 1, 1) := by decide +kernel
theorem dX9_way_8 : decode cX9_way 8 = .ok (.invokevirtual 138, 3) := by decide +kernel
theorem dX9_way_11 : decode cX9_way 11 = .ok (.ifCond .eq 7, 3) := by decide +kernel
theorem dX9_way_14 : decode cX9_way 14 = .ok (.iload_n 2, 1) := by decide +kernel
theorem dX9_way_15 : decode cX9_way 15 = .ok (.ifCond .ge 5, 3) := by decide +kernel
theorem dX9_way_18 : decode cX9_way 18 = .ok (.iconst (-1), 1) := by decide +kernel
theorem dX9_way_19 : decode cX9_way 19 = .ok (.ireturn, 1) := by decide +kernel
theorem dX9_way_20 : decode cX9_way 20 = .ok (.aload_n 0, 1) := by decide +kernel
theorem dX9_way_21 : decode cX9_way 21 = .ok (.getfield 10, 3) := by decide +kernel
theorem dX9_way_24 : decode cX9_way 24 = .ok (.invokevirtual 121, 3) := by decide +kernel
theorem dX9_way_27 : decode cX9_way 27 = .ok (.iload_n 1, 1) := by decide +kernel
theorem dX9_way_28 : decode cX9_way 28 = .ok (.iload_n 2, 1) := by decide +kernel
theorem dX9_way_29 : decode cX9_way 29 = .ok (.invokevirtual 170, 3) := by decide +kernel
theorem dX9_way_32 : decode cX9_way 32 = .ok (.ireturn, 1) := by decide +kernel
theorem dX9_called_0 : decode cX9_called 0 = .ok (.aload_n 0, 1) := by decide +kernel
theorem dX9_called_1 : decode cX9_called 1 = .ok (.getfield 10, 3) := by decide +kernel
theorem dX9_called_4 : decode cX9_called 4 = .ok (.invokevirtual 121, 3) := by decide +kernel
theorem dX9_called_7 : decode cX9_called 7 = .ok (.iload_n 1, 1) := by decide +kernel
theorem dX9_called_8 : decode cX9_called 8 = .ok (.invokevirtual 138, 3) := by decide +kernel
theorem dX9_called_11 : decode cX9_called 11 = .ok (.ifCond .eq 17, 3) := by decide +kernel
theorem dX9_called_14 : decode cX9_called 14 = .ok (.aload_n 0, 1) := by decide +kernel
theorem dX9_called_15 : decode cX9_called 15 = .ok (.getfield 10, 3) := by decide +kernel
theorem dX9_called_18 : decode cX9_called 18 = .ok (.invokevirtual 121, 3) := by decide +kernel
theorem dX9_called_21 : decode cX9_called 21 = .ok (.iload_n 1, 1) := by decide +kernel
theorem dX9_called_22 : decode cX9_called 22 = .ok (.invokevirtual 173, 3) := by decide +kernel
theorem dX9_called_25 : decode cX9_called 25 = .ok (.goto 4, 3) := by decide +kernel
theorem dX9_called_28 : decode cX9_called 28 = .ok (.iconst (-1), 1) := by decide +kernel
theorem dX9_called_29 : decode cX9_called 29 = .ok (.ireturn, 1) := by decide +kernel
theorem dX9_owes_0 : decode cX9_owes 0 = .ok (.aload_n 0, 1) := by decide +kernel
theorem dX9_owes_1 : decode cX9_owes 1 = .ok (.getfield 10, 3) := by decide +kernel
theorem dX9_owes_4 : decode cX9_owes 4 = .ok (.iload_n 1, 1) := by decide +kernel
theorem dX9_owes_5 : decode cX9_owes 5 = .ok (.invokevirtual 58, 3) := by decide +kernel
theorem dX9_owes_8 : decode cX9_owes 8 = .ok (.ifCond .eq 26, 3) := by decide +kernel
theorem dX9_owes_11 : decode cX9_owes 11 = .ok (.aload_n 0, 1) := by decide +kernel
theorem dX9_owes_12 : decode cX9_owes 12 = .ok (.getfield 10, 3) := by decide +kernel
theorem dX9_owes_15 : decode cX9_owes 15 = .ok (.iload_n 2, 1) := by decide +kernel
theorem dX9_owes_16 : decode cX9_owes 16 = .ok (.invokevirtual 58, 3) := by decide +kernel
theorem dX9_owes_19 : decode cX9_owes 19 = .ok (.ifCond .eq 15, 3) := by decide +kernel
theorem dX9_owes_22 : decode cX9_owes 22 = .ok (.aload_n 0, 1) := by decide +kernel
theorem dX9_owes_23 : decode cX9_owes 23 = .ok (.getfield 10, 3) := by decide +kernel
theorem dX9_owes_26 : decode cX9_owes 26 = .ok (.iload_n 1, 1) := by decide +kernel
theorem dX9_owes_27 : decode cX9_owes 27 = .ok (.iload_n 2, 1) := by decide +kernel
theorem dX9_owes_28 : decode cX9_owes 28 = .ok (.invokevirtual 176, 3) := by decide +kernel
theorem dX9_owes_31 : decode cX9_owes 31 = .ok (.goto 4, 3) := by decide +kernel
theorem dX9_owes_34 : decode cX9_owes 34 = .ok (.iconst (-1), 1) := by decide +kernel
theorem dX9_owes_35 : decode cX9_owes 35 = .ok (.ireturn, 1) := by decide +kernel
theorem dX9_attempts_0 : decode cX9_attempts 0 = .ok (.aload_n 0, 1) := by decide +kernel
theorem dX9_attempts_1 : decode cX9_attempts 1 = .ok (.getfield 36, 3) := by decide +kernel
theorem dX9_attempts_4 : decode cX9_attempts 4 = .ok (.invokevirtual 179, 3) := by decide +kernel
theorem dX9_attempts_7 : decode cX9_attempts 7 = .ok (.invokevirtual 183, 3) := by decide +kernel
theorem dX9_attempts_10 : decode cX9_attempts 10 = .ok (.ireturn, 1) := by decide +kernel
theorem dX9_attempt_0 : decode cX9_attempt 0 = .ok (.aload_n 0, 1) := by decide +kernel
theorem dX9_attempt_1 : decode cX9_attempt 1 = .ok (.getfield 36, 3) := by decide +kernel
theorem dX9_attempt_4 : decode cX9_attempt 4 = .ok (.invokevirtual 179, 3) := by decide +kernel
theorem dX9_attempt_7 : decode cX9_attempt 7 = .ok (.astore_n 3, 1) := by decide +kernel
theorem dX9_attempt_8 : decode cX9_attempt 8 = .ok (.aload_n 3, 1) := by decide +kernel
theorem dX9_attempt_9 : decode cX9_attempt 9 = .ok (.iload_n 1, 1) := by decide +kernel
theorem dX9_attempt_10 : decode cX9_attempt 10 = .ok (.invokevirtual 186, 3) := by decide +kernel
theorem dX9_attempt_13 : decode cX9_attempt 13 = .ok (.ifCond .eq 12, 3) := by decide +kernel
theorem dX9_attempt_16 : decode cX9_attempt 16 = .ok (.iload_n 2, 1) := by decide +kernel
theorem dX9_attempt_17 : decode cX9_attempt 17 = .ok (.iconst 0, 1) := by decide +kernel
theorem dX9_attempt_18 : decode cX9_attempt 18 = .ok (.iconst 1, 1) := by decide +kernel
theorem dX9_attempt_19 : decode cX9_attempt 19 = .ok (.invokestatic 69, 3) := by decide +kernel
theorem dX9_attempt_22 : decode cX9_attempt 22 = .ok (.ifCond .ne 5, 3) := by decide +kernel
theorem dX9_attempt_25 : decode cX9_attempt 25 = .ok (.iconst (-1), 1) := by decide +kernel
theorem dX9_attempt_26 : decode cX9_attempt 26 = .ok (.ireturn, 1) := by decide +kernel
theorem dX9_attempt_27 : decode cX9_attempt 27 = .ok (.iload_n 2, 1) := by decide +kernel
theorem dX9_attempt_28 : decode cX9_attempt 28 = .ok (.ifCond .ne 11, 3) := by decide +kernel
theorem dX9_attempt_31 : decode cX9_attempt 31 = .ok (.aload_n 3, 1) := by decide +kernel
theorem dX9_attempt_32 : decode cX9_attempt 32 = .ok (.iload_n 1, 1) := by decide +kernel
theorem dX9_attempt_33 : decode cX9_attempt 33 = .ok (.invokevirtual 187, 3) := by decide +kernel
theorem dX9_attempt_36 : decode cX9_attempt 36 = .ok (.goto 8, 3) := by decide +kernel
theorem dX9_attempt_39 : decode cX9_attempt 39 = .ok (.aload_n 3, 1) := by decide +kernel
theorem dX9_attempt_40 : decode cX9_attempt 40 = .ok (.iload_n 1, 1) := by decide +kernel
theorem dX9_attempt_41 : decode cX9_attempt 41 = .ok (.invokevirtual 190, 3) := by decide +kernel
theorem dX9_attempt_44 : decode cX9_attempt 44 = .ok (.ireturn, 1) := by decide +kernel
theorem dX9_cheapest_0 : decode cX9_cheapest 0 = .ok (.aload_n 0, 1) := by decide +kernel
theorem dX9_cheapest_1 : decode cX9_cheapest 1 = .ok (.getfield 10, 3) := by decide +kernel
theorem dX9_cheapest_4 : decode cX9_cheapest 4 = .ok (.iload_n 1, 1) := by decide +kernel
theorem dX9_cheapest_5 : decode cX9_cheapest 5 = .ok (.invokevirtual 58, 3) := by decide +kernel
theorem dX9_cheapest_8 : decode cX9_cheapest 8 = .ok (.ifCond .eq 10, 3) := by decide +kernel
theorem dX9_cheapest_11 : decode cX9_cheapest 11 = .ok (.iload_n 2, 1) := by decide +kernel
theorem dX9_cheapest_12 : decode cX9_cheapest 12 = .ok (.invokestatic 112, 3) := by decide +kernel
theorem dX9_cheapest_15 : decode cX9_cheapest 15 = .ok (.ifCond .ne 5, 3) := by decide +kernel
theorem dX9_cheapest_18 : decode cX9_cheapest 18 = .ok (.iconst (-1), 1) := by decide +kernel
theorem dX9_cheapest_19 : decode cX9_cheapest 19 = .ok (.ireturn, 1) := by decide +kernel
theorem dX9_cheapest_20 : decode cX9_cheapest 20 = .ok (.aload_n 0, 1) := by decide +kernel
theorem dX9_cheapest_21 : decode cX9_cheapest 21 = .ok (.getfield 43, 3) := by decide +kernel
theorem dX9_cheapest_24 : decode cX9_cheapest 24 = .ok (.aload_n 0, 1) := by decide +kernel
theorem dX9_cheapest_25 : decode cX9_cheapest 25 = .ok (.getfield 10, 3) := by decide +kernel
theorem dX9_cheapest_28 : decode cX9_cheapest 28 = .ok (.iload_n 1, 1) := by decide +kernel
theorem dX9_cheapest_29 : decode cX9_cheapest 29 = .ok (.iload_n 2, 1) := by decide +kernel
theorem dX9_cheapest_30 : decode cX9_cheapest 30 = .ok (.invokevirtual 193, 3) := by decide +kernel
theorem dX9_cheapest_33 : decode cX9_cheapest 33 = .ok (.ireturn, 1) := by decide +kernel
theorem dX9_type_0 : decode cX9_type 0 = .ok (.iload_n 1, 1) := by decide +kernel
theorem dX9_type_1 : decode cX9_type 1 = .ok (.bipush 32, 2) := by decide +kernel
theorem dX9_type_3 : decode cX9_type 3 = .ok (.bipush 126, 2) := by decide +kernel
theorem dX9_type_5 : decode cX9_type 5 = .ok (.invokestatic 69, 3) := by decide +kernel
theorem dX9_type_8 : decode cX9_type 8 = .ok (.ifCond .ne 5, 3) := by decide +kernel
theorem dX9_type_11 : decode cX9_type 11 = .ok (.iconst (-1), 1) := by decide +kernel
theorem dX9_type_12 : decode cX9_type 12 = .ok (.ireturn, 1) := by decide +kernel
theorem dX9_type_13 : decode cX9_type 13 = .ok (.aload_n 0, 1) := by decide +kernel
theorem dX9_type_14 : decode cX9_type 14 = .ok (.getfield 29, 3) := by decide +kernel
theorem dX9_type_17 : decode cX9_type 17 = .ok (.iload_n 1, 1) := by decide +kernel
theorem dX9_type_18 : decode cX9_type 18 = .ok (.i2c, 1) := by decide +kernel
theorem dX9_type_19 : decode cX9_type 19 = .ok (.invokevirtual 196, 3) := by decide +kernel
theorem dX9_type_22 : decode cX9_type 22 = .ok (.ifCond .eq 13, 3) := by decide +kernel
theorem dX9_type_25 : decode cX9_type 25 = .ok (.aload_n 0, 1) := by decide +kernel
theorem dX9_type_26 : decode cX9_type 26 = .ok (.getfield 29, 3) := by decide +kernel
theorem dX9_type_29 : decode cX9_type 29 = .ok (.invokevirtual 200, 3) := by decide +kernel
theorem dX9_type_32 : decode cX9_type 32 = .ok (.goto 5, 3) := by decide +kernel
theorem dX9_type_35 : decode cX9_type 35 = .ok (.bipush (-3), 2) := by decide +kernel
theorem dX9_type_37 : decode cX9_type 37 = .ok (.ireturn, 1) := by decide +kernel
theorem dX9_clear_0 : decode cX9_clear 0 = .ok (.aload_n 0, 1) := by decide +kernel
theorem dX9_clear_1 : decode cX9_clear 1 = .ok (.getfield 29, 3) := by decide +kernel
theorem dX9_clear_4 : decode cX9_clear 4 = .ok (.invokevirtual 200, 3) := by decide +kernel
theorem dX9_clear_7 : decode cX9_clear 7 = .ok (.istore_n 1, 1) := by decide +kernel
theorem dX9_clear_8 : decode cX9_clear 8 = .ok (.aload_n 0, 1) := by decide +kernel
theorem dX9_clear_9 : decode cX9_clear 9 = .ok (.getfield 29, 3) := by decide +kernel
theorem dX9_clear_12 : decode cX9_clear 12 = .ok (.invokevirtual 201, 3) := by decide +kernel
theorem dX9_clear_15 : decode cX9_clear 15 = .ok (.iload_n 1, 1) := by decide +kernel
theorem dX9_clear_16 : decode cX9_clear 16 = .ok (.ireturn, 1) := by decide +kernel
theorem dX9_run_0 : decode cX9_run 0 = .ok (.aload_n 0, 1) := by decide +kernel
theorem dX9_run_1 : decode cX9_run 1 = .ok (.getfield 29, 3) := by decide +kernel
theorem dX9_run_4 : decode cX9_run 4 = .ok (.invokevirtual 204, 3) := by decide +kernel
theorem dX9_run_7 : decode cX9_run 7 = .ok (.ifCond .ne 14, 3) := by decide +kernel
theorem dX9_run_10 : decode cX9_run 10 = .ok (.bipush (-100), 2) := by decide +kernel
theorem dX9_run_12 : decode cX9_run 12 = .ok (.aload_n 0, 1) := by decide +kernel
theorem dX9_run_13 : decode cX9_run 13 = .ok (.getfield 29, 3) := by decide +kernel
theorem dX9_run_16 : decode cX9_run 16 = .ok (.invokevirtual 208, 3) := by decide +kernel
theorem dX9_run_19 : decode cX9_run 19 = .ok (.isub, 1) := by decide +kernel
theorem dX9_run_20 : decode cX9_run 20 = .ok (.ireturn, 1) := by decide +kernel
theorem dX9_run_21 : decode cX9_run 21 = .ok (.aload_n 0, 1) := by decide +kernel
theorem dX9_run_22 : decode cX9_run 22 = .ok (.getfield 16, 3) := by decide +kernel
theorem dX9_run_25 : decode cX9_run 25 = .ok (.aload_n 0, 1) := by decide +kernel
theorem dX9_run_26 : decode cX9_run 26 = .ok (.getfield 10, 3) := by decide +kernel
theorem dX9_run_29 : decode cX9_run 29 = .ok (.invokevirtual 211, 3) := by decide +kernel
theorem dX9_run_32 : decode cX9_run 32 = .ok (.aload_n 0, 1) := by decide +kernel
theorem dX9_run_33 : decode cX9_run 33 = .ok (.getfield 29, 3) := by decide +kernel
theorem dX9_run_36 : decode cX9_run 36 = .ok (.invokevirtual 214, 3) := by decide +kernel
theorem dX9_run_39 : decode cX9_run 39 = .ok (.istore_n 1, 1) := by decide +kernel
theorem dX9_run_40 : decode cX9_run 40 = .ok (.iconst 0, 1) := by decide +kernel
theorem dX9_run_41 : decode cX9_run 41 = .ok (.istore_n 2, 1) := by decide +kernel
theorem dX9_run_42 : decode cX9_run 42 = .ok (.iload_n 2, 1) := by decide +kernel
theorem dX9_run_43 : decode cX9_run 43 = .ok (.iload_n 1, 1) := by decide +kernel
theorem dX9_run_44 : decode cX9_run 44 = .ok (.if_icmp .ge 41, 3) := by decide +kernel
theorem dX9_run_47 : decode cX9_run 47 = .ok (.aload_n 0, 1) := by decide +kernel
theorem dX9_run_48 : decode cX9_run 48 = .ok (.getfield 29, 3) := by decide +kernel
theorem dX9_run_51 : decode cX9_run 51 = .ok (.iload_n 2, 1) := by decide +kernel
theorem dX9_run_52 : decode cX9_run 52 = .ok (.aload_n 0, 1) := by decide +kernel
theorem dX9_run_53 : decode cX9_run 53 = .ok (.getfield 10, 3) := by decide +kernel
theorem dX9_run_56 : decode cX9_run 56 = .ok (.invokevirtual 217, 3) := by decide +kernel
theorem dX9_run_59 : decode cX9_run 59 = .ok (.ifCond .ne 20, 3) := by decide +kernel
theorem dX9_run_62 : decode cX9_run 62 = .ok (.aload_n 0, 1) := by decide +kernel
theorem dX9_run_63 : decode cX9_run 63 = .ok (.getfield 10, 3) := by decide +kernel
theorem dX9_run_66 : decode cX9_run 66 = .ok (.aload_n 0, 1) := by decide +kernel
theorem dX9_run_67 : decode cX9_run 67 = .ok (.getfield 16, 3) := by decide +kernel
theorem dX9_run_70 : decode cX9_run 70 = .ok (.invokevirtual 211, 3) := by decide +kernel
theorem dX9_run_73 : decode cX9_run 73 = .ok (.sipush (-1000), 3) := by decide +kernel
theorem dX9_run_76 : decode cX9_run 76 = .ok (.iload_n 2, 1) := by decide +kernel
theorem dX9_run_77 : decode cX9_run 77 = .ok (.isub, 1) := by decide +kernel
theorem dX9_run_78 : decode cX9_run 78 = .ok (.ireturn, 1) := by decide +kernel
theorem dX9_run_79 : decode cX9_run 79 = .ok (.iinc 2 1, 3) := by decide +kernel
theorem dX9_run_82 : decode cX9_run 82 = .ok (.goto (-40), 3) := by decide +kernel
theorem dX9_run_85 : decode cX9_run 85 = .ok (.aload_n 0, 1) := by decide +kernel
theorem dX9_run_86 : decode cX9_run 86 = .ok (.getfield 22, 3) := by decide +kernel
theorem dX9_run_89 : decode cX9_run 89 = .ok (.aload_n 0, 1) := by decide +kernel
theorem dX9_run_90 : decode cX9_run 90 = .ok (.getfield 16, 3) := by decide +kernel
theorem dX9_run_93 : decode cX9_run 93 = .ok (.invokevirtual 51, 3) := by decide +kernel
theorem dX9_run_96 : decode cX9_run 96 = .ok (.aload_n 0, 1) := by decide +kernel
theorem dX9_run_97 : decode cX9_run 97 = .ok (.getfield 29, 3) := by decide +kernel
theorem dX9_run_100 : decode cX9_run 100 = .ok (.invokevirtual 201, 3) := by decide +kernel
theorem dX9_run_103 : decode cX9_run 103 = .ok (.iload_n 1, 1) := by decide +kernel
theorem dX9_run_104 : decode cX9_run 104 = .ok (.ireturn, 1) := by decide +kernel
theorem dX9_undo_0 : decode cX9_undo 0 = .ok (.aload_n 0, 1) := by decide +kernel
theorem dX9_undo_1 : decode cX9_undo 1 = .ok (.getfield 22, 3) := by decide +kernel
theorem dX9_undo_4 : decode cX9_undo 4 = .ok (.aload_n 0, 1) := by decide +kernel
theorem dX9_undo_5 : decode cX9_undo 5 = .ok (.getfield 10, 3) := by decide +kernel
theorem dX9_undo_8 : decode cX9_undo 8 = .ok (.invokevirtual 221, 3) := by decide +kernel
theorem dX9_undo_11 : decode cX9_undo 11 = .ok (.ifCond .eq 13, 3) := by decide +kernel
theorem dX9_undo_14 : decode cX9_undo 14 = .ok (.aload_n 0, 1) := by decide +kernel
theorem dX9_undo_15 : decode cX9_undo 15 = .ok (.getfield 22, 3) := by decide +kernel
theorem dX9_undo_18 : decode cX9_undo 18 = .ok (.invokevirtual 225, 3) := by decide +kernel
theorem dX9_undo_21 : decode cX9_undo 21 = .ok (.goto 5, 3) := by decide +kernel
theorem dX9_undo_24 : decode cX9_undo 24 = .ok (.bipush (-9), 2) := by decide +kernel
theorem dX9_undo_26 : decode cX9_undo 26 = .ok (.ireturn, 1) := by decide +kernel
theorem dX9_fingerprint_0 : decode cX9_fingerprint 0 = .ok (.aload_n 0, 1) := by decide +kernel
theorem dX9_fingerprint_1 : decode cX9_fingerprint 1 = .ok (.getfield 10, 3) := by decide +kernel
theorem dX9_fingerprint_4 : decode cX9_fingerprint 4 = .ok (.invokevirtual 85, 3) := by decide +kernel
theorem dX9_fingerprint_7 : decode cX9_fingerprint 7 = .ok (.ldc2_w 226, 3) := by decide +kernel
theorem dX9_fingerprint_10 : decode cX9_fingerprint 10 = .ok (.ldc2_w 228, 3) := by decide +kernel
theorem dX9_fingerprint_13 : decode cX9_fingerprint 13 = .ok (.aload_n 0, 1) := by decide +kernel
theorem dX9_fingerprint_14 : decode cX9_fingerprint 14 = .ok (.getfield 10, 3) := by decide +kernel
theorem dX9_fingerprint_17 : decode cX9_fingerprint 17 = .ok (.invokevirtual 47, 3) := by decide +kernel
theorem dX9_fingerprint_20 : decode cX9_fingerprint 20 = .ok (.i2l, 1) := by decide +kernel
theorem dX9_fingerprint_21 : decode cX9_fingerprint 21 = .ok (.ladd, 1) := by decide +kernel
theorem dX9_fingerprint_22 : decode cX9_fingerprint 22 = .ok (.lmul, 1) := by decide +kernel
theorem dX9_fingerprint_23 : decode cX9_fingerprint 23 = .ok (.aload_n 0, 1) := by decide +kernel
theorem dX9_fingerprint_24 : decode cX9_fingerprint 24 = .ok (.getfield 10, 3) := by decide +kernel
theorem dX9_fingerprint_27 : decode cX9_fingerprint 27 = .ok (.invokevirtual 85, 3) := by decide +kernel
theorem dX9_fingerprint_30 : decode cX9_fingerprint 30 = .ok (.invokevirtual 230, 3) := by decide +kernel
theorem dX9_fingerprint_33 : decode cX9_fingerprint 33 = .ok (.i2l, 1) := by decide +kernel
theorem dX9_fingerprint_34 : decode cX9_fingerprint 34 = .ok (.ladd, 1) := by decide +kernel
theorem dX9_fingerprint_35 : decode cX9_fingerprint 35 = .ok (.invokevirtual 231, 3) := by decide +kernel
theorem dX9_fingerprint_38 : decode cX9_fingerprint 38 = .ok (.lstore_n 1, 1) := by decide +kernel
theorem dX9_fingerprint_39 : decode cX9_fingerprint 39 = .ok (.ldc2_w 226, 3) := by decide +kernel
theorem dX9_fingerprint_42 : decode cX9_fingerprint 42 = .ok (.lload_n 1, 1) := by decide +kernel
theorem dX9_fingerprint_43 : decode cX9_fingerprint 43 = .ok (.lmul, 1) := by decide +kernel
theorem dX9_fingerprint_44 : decode cX9_fingerprint 44 = .ok (.aload_n 0, 1) := by decide +kernel
theorem dX9_fingerprint_45 : decode cX9_fingerprint 45 = .ok (.getfield 10, 3) := by decide +kernel
theorem dX9_fingerprint_48 : decode cX9_fingerprint 48 = .ok (.invokevirtual 104, 3) := by decide +kernel
theorem dX9_fingerprint_51 : decode cX9_fingerprint 51 = .ok (.invokevirtual 235, 3) := by decide +kernel
theorem dX9_fingerprint_54 : decode cX9_fingerprint 54 = .ok (.i2l, 1) := by decide +kernel
theorem dX9_fingerprint_55 : decode cX9_fingerprint 55 = .ok (.ladd, 1) := by decide +kernel
theorem dX9_fingerprint_56 : decode cX9_fingerprint 56 = .ok (.lstore_n 1, 1) := by decide +kernel
theorem dX9_fingerprint_57 : decode cX9_fingerprint 57 = .ok (.ldc2_w 226, 3) := by decide +kernel
theorem dX9_fingerprint_60 : decode cX9_fingerprint 60 = .ok (.lload_n 1, 1) := by decide +kernel
theorem dX9_fingerprint_61 : decode cX9_fingerprint 61 = .ok (.lmul, 1) := by decide +kernel
theorem dX9_fingerprint_62 : decode cX9_fingerprint 62 = .ok (.aload_n 0, 1) := by decide +kernel
theorem dX9_fingerprint_63 : decode cX9_fingerprint 63 = .ok (.getfield 10, 3) := by decide +kernel
theorem dX9_fingerprint_66 : decode cX9_fingerprint 66 = .ok (.invokevirtual 236, 3) := by decide +kernel
theorem dX9_fingerprint_69 : decode cX9_fingerprint 69 = .ok (.i2l, 1) := by decide +kernel
theorem dX9_fingerprint_70 : decode cX9_fingerprint 70 = .ok (.ladd, 1) := by decide +kernel
theorem dX9_fingerprint_71 : decode cX9_fingerprint 71 = .ok (.lstore_n 1, 1) := by decide +kernel
theorem dX9_fingerprint_72 : decode cX9_fingerprint 72 = .ok (.ldc2_w 226, 3) := by decide +kernel
theorem dX9_fingerprint_75 : decode cX9_fingerprint 75 = .ok (.lload_n 1, 1) := by decide +kernel
theorem dX9_fingerprint_76 : decode cX9_fingerprint 76 = .ok (.lmul, 1) := by decide +kernel
theorem dX9_fingerprint_77 : decode cX9_fingerprint 77 = .ok (.aload_n 0, 1) := by decide +kernel
theorem dX9_fingerprint_78 : decode cX9_fingerprint 78 = .ok (.getfield 10, 3) := by decide +kernel
theorem dX9_fingerprint_81 : decode cX9_fingerprint 81 = .ok (.invokevirtual 142, 3) := by decide +kernel
theorem dX9_fingerprint_84 : decode cX9_fingerprint 84 = .ok (.i2l, 1) := by decide +kernel
theorem dX9_fingerprint_85 : decode cX9_fingerprint 85 = .ok (.ladd, 1) := by decide +kernel
theorem dX9_fingerprint_86 : decode cX9_fingerprint 86 = .ok (.lstore_n 1, 1) := by decide +kernel
theorem dX9_fingerprint_87 : decode cX9_fingerprint 87 = .ok (.ldc2_w 226, 3) := by decide +kernel
theorem dX9_fingerprint_90 : decode cX9_fingerprint 90 = .ok (.lload_n 1, 1) := by decide +kernel
theorem dX9_fingerprint_91 : decode cX9_fingerprint 91 = .ok (.lmul, 1) := by decide +kernel
theorem dX9_fingerprint_92 : decode cX9_fingerprint 92 = .ok (.aload_n 0, 1) := by decide +kernel
theorem dX9_fingerprint_93 : decode cX9_fingerprint 93 = .ok (.getfield 10, 3) := by decide +kernel
theorem dX9_fingerprint_96 : decode cX9_fingerprint 96 = .ok (.invokevirtual 121, 3) := by decide +kernel
theorem dX9_fingerprint_99 : decode cX9_fingerprint 99 = .ok (.invokevirtual 167, 3) := by decide +kernel
theorem dX9_fingerprint_102 : decode cX9_fingerprint 102 = .ok (.i2l, 1) := by decide +kernel
theorem dX9_fingerprint_103 : decode cX9_fingerprint 103 = .ok (.ladd, 1) := by decide +kernel
theorem dX9_fingerprint_104 : decode cX9_fingerprint 104 = .ok (.lstore_n 1, 1) := by decide +kernel
theorem dX9_fingerprint_105 : decode cX9_fingerprint 105 = .ok (.aload_n 0, 1) := by decide +kernel
theorem dX9_fingerprint_106 : decode cX9_fingerprint 106 = .ok (.getfield 10, 3) := by decide +kernel
theorem dX9_fingerprint_109 : decode cX9_fingerprint 109 = .ok (.lload_n 1, 1) := by decide +kernel
theorem dX9_fingerprint_110 : decode cX9_fingerprint 110 = .ok (.invokevirtual 239, 3) := by decide +kernel
theorem dX9_fingerprint_113 : decode cX9_fingerprint 113 = .ok (.lreturn, 1) := by decide +kernel
theorem dX9_inRange_0 : decode cX9_inRange 0 = .ok (.iload_n 0, 1) := by decide +kernel
theorem dX9_inRange_1 : decode cX9_inRange 1 = .ok (.iload_n 1, 1) := by decide +kernel
theorem dX9_inRange_2 : decode cX9_inRange 2 = .ok (.if_icmp .lt 12, 3) := by decide +kernel
theorem dX9_inRange_5 : decode cX9_inRange 5 = .ok (.iload_n 0, 1) := by decide +kernel
theorem dX9_inRange_6 : decode cX9_inRange 6 = .ok (.iload_n 2, 1) := by decide +kernel
theorem dX9_inRange_7 : decode cX9_inRange 7 = .ok (.if_icmp .gt 7, 3) := by decide +kernel
theorem dX9_inRange_10 : decode cX9_inRange 10 = .ok (.iconst 1, 1) := by decide +kernel
theorem dX9_inRange_11 : decode cX9_inRange 11 = .ok (.goto 4, 3) := by decide +kernel
theorem dX9_inRange_14 : decode cX9_inRange 14 = .ok (.iconst 0, 1) := by decide +kernel
theorem dX9_inRange_15 : decode cX9_inRange 15 = .ok (.ireturn, 1) := by decide +kernel
theorem dX9_isNumber_0 : decode cX9_isNumber 0 = .ok (.iload_n 0, 1) := by decide +kernel
theorem dX9_isNumber_1 : decode cX9_isNumber 1 = .ok (.iconst 1, 1) := by decide +kernel
theorem dX9_isNumber_2 : decode cX9_isNumber 2 = .ok (.ldc 242, 2) := by decide +kernel
theorem dX9_isNumber_4 : decode cX9_isNumber 4 = .ok (.invokestatic 69, 3) := by decide +kernel
theorem dX9_isNumber_7 : decode cX9_isNumber 7 = .ok (.ireturn, 1) := by decide +kernel
theorem dX9_bandOf_0 : decode cX9_bandOf 0 = .ok (.iload_n 0, 1) := by decide +kernel
theorem dX9_bandOf_1 : decode cX9_bandOf 1 = .ok (.sipush 10080, 3) := by decide +kernel
theorem dX9_bandOf_4 : decode cX9_bandOf 4 = .ok (.invokestatic 243, 3) := by decide +kernel
theorem dX9_bandOf_7 : decode cX9_bandOf 7 = .ok (.istore_n 1, 1) := by decide +kernel
theorem dX9_bandOf_8 : decode cX9_bandOf 8 = .ok (.iload_n 1, 1) := by decide +kernel
theorem dX9_bandOf_9 : decode cX9_bandOf 9 = .ok (.sipush 7200, 3) := by decide +kernel
theorem dX9_bandOf_12 : decode cX9_bandOf 12 = .ok (.if_icmp .lt 5, 3) := by decide +kernel
theorem dX9_bandOf_15 : decode cX9_bandOf 15 = .ok (.iconst 2, 1) := by decide +kernel
theorem dX9_bandOf_16 : decode cX9_bandOf 16 = .ok (.ireturn, 1) := by decide +kernel
theorem dX9_bandOf_17 : decode cX9_bandOf 17 = .ok (.iload_n 1, 1) := by decide +kernel
theorem dX9_bandOf_18 : decode cX9_bandOf 18 = .ok (.sipush 1440, 3) := by decide +kernel
theorem dX9_bandOf_21 : decode cX9_bandOf 21 = .ok (.irem, 1) := by decide +kernel
theorem dX9_bandOf_22 : decode cX9_bandOf 22 = .ok (.sipush 480, 3) := by decide +kernel
theorem dX9_bandOf_25 : decode cX9_bandOf 25 = .ok (.sipush 1199, 3) := by decide +kernel
theorem dX9_bandOf_28 : decode cX9_bandOf 28 = .ok (.invokestatic 69, 3) := by decide +kernel
theorem dX9_bandOf_31 : decode cX9_bandOf 31 = .ok (.ifCond .eq 7, 3) := by decide +kernel
theorem dX9_bandOf_34 : decode cX9_bandOf 34 = .ok (.iconst 0, 1) := by decide +kernel
theorem dX9_bandOf_35 : decode cX9_bandOf 35 = .ok (.goto 4, 3) := by decide +kernel
theorem dX9_bandOf_38 : decode cX9_bandOf 38 = .ok (.iconst 1, 1) := by decide +kernel
theorem dX9_bandOf_39 : decode cX9_bandOf 39 = .ok (.ireturn, 1) := by decide +kernel
theorem dX9_digitsOf_0 : decode cX9_digitsOf 0 = .ok (.iload_n 1, 1) := by decide +kernel
theorem dX9_digitsOf_1 : decode cX9_digitsOf 1 = .ok (.bipush (-9), 2) := by decide +kernel
theorem dX9_digitsOf_3 : decode cX9_digitsOf 3 = .ok (.if_icmp .ne 6, 3) := by decide +kernel
theorem dX9_digitsOf_6 : decode cX9_digitsOf 6 = .ok (.iload_n 0, 1) := by decide +kernel
theorem dX9_digitsOf_7 : decode cX9_digitsOf 7 = .ok (.i2l, 1) := by decide +kernel
theorem dX9_digitsOf_8 : decode cX9_digitsOf 8 = .ok (.lreturn, 1) := by decide +kernel
theorem dX9_digitsOf_9 : decode cX9_digitsOf 9 = .ok (.lconst 1, 1) := by decide +kernel
theorem dX9_digitsOf_10 : decode cX9_digitsOf 10 = .ok (.lstore_n 2, 1) := by decide +kernel
theorem dX9_digitsOf_11 : decode cX9_digitsOf 11 = .ok (.iconst 0, 1) := by decide +kernel
theorem dX9_digitsOf_12 : decode cX9_digitsOf 12 = .ok (.istore 4, 2) := by decide +kernel
theorem dX9_digitsOf_14 : decode cX9_digitsOf 14 = .ok (.iload 4, 2) := by decide +kernel
theorem dX9_digitsOf_16 : decode cX9_digitsOf 16 = .ok (.bipush 9, 2) := by decide +kernel
theorem dX9_digitsOf_18 : decode cX9_digitsOf 18 = .ok (.if_icmp .ge 22, 3) := by decide +kernel
theorem dX9_digitsOf_21 : decode cX9_digitsOf 21 = .ok (.lload_n 2, 1) := by decide +kernel
theorem dX9_digitsOf_22 : decode cX9_digitsOf 22 = .ok (.iload_n 0, 1) := by decide +kernel
theorem dX9_digitsOf_23 : decode cX9_digitsOf 23 = .ok (.i2l, 1) := by decide +kernel
theorem dX9_digitsOf_24 : decode cX9_digitsOf 24 = .ok (.lcmp, 1) := by decide +kernel
theorem dX9_digitsOf_25 : decode cX9_digitsOf 25 = .ok (.ifCond .gt 15, 3) := by decide +kernel
theorem dX9_digitsOf_28 : decode cX9_digitsOf 28 = .ok (.lload_n 2, 1) := by decide +kernel
theorem dX9_digitsOf_29 : decode cX9_digitsOf 29 = .ok (.ldc2_w 248, 3) := by decide +kernel
theorem dX9_digitsOf_32 : decode cX9_digitsOf 32 = .ok (.lmul, 1) := by decide +kernel
theorem dX9_digitsOf_33 : decode cX9_digitsOf 33 = .ok (.lstore_n 2, 1) := by decide +kernel
theorem dX9_digitsOf_34 : decode cX9_digitsOf 34 = .ok (.iinc 4 1, 3) := by decide +kernel
theorem dX9_digitsOf_37 : decode cX9_digitsOf 37 = .ok (.goto (-23), 3) := by decide +kernel
theorem dX9_digitsOf_40 : decode cX9_digitsOf 40 = .ok (.ldc2_w 250, 3) := by decide +kernel
theorem dX9_digitsOf_43 : decode cX9_digitsOf 43 = .ok (.iload_n 1, 1) := by decide +kernel
theorem dX9_digitsOf_44 : decode cX9_digitsOf 44 = .ok (.i2l, 1) := by decide +kernel
theorem dX9_digitsOf_45 : decode cX9_digitsOf 45 = .ok (.ladd, 1) := by decide +kernel
theorem dX9_digitsOf_46 : decode cX9_digitsOf 46 = .ok (.lload_n 2, 1) := by decide +kernel
theorem dX9_digitsOf_47 : decode cX9_digitsOf 47 = .ok (.lmul, 1) := by decide +kernel
theorem dX9_digitsOf_48 : decode cX9_digitsOf 48 = .ok (.iload_n 0, 1) := by decide +kernel
theorem dX9_digitsOf_49 : decode cX9_digitsOf 49 = .ok (.i2l, 1) := by decide +kernel
theorem dX9_digitsOf_50 : decode cX9_digitsOf 50 = .ok (.ladd, 1) := by decide +kernel
theorem dX9_digitsOf_51 : decode cX9_digitsOf 51 = .ok (.lreturn, 1) := by decide +kernel
theorem dX9_beginsWith_0 : decode cX9_beginsWith 0 = .ok (.lload_n 0, 1) := by decide +kernel
theorem dX9_beginsWith_1 : decode cX9_beginsWith 1 = .ok (.lstore_n 3, 1) := by decide +kernel
theorem dX9_beginsWith_2 : decode cX9_beginsWith 2 = .ok (.iconst 0, 1) := by decide +kernel
theorem dX9_beginsWith_3 : decode cX9_beginsWith 3 = .ok (.istore 5, 2) := by decide +kernel
theorem dX9_beginsWith_5 : decode cX9_beginsWith 5 = .ok (.iload 5, 2) := by decide +kernel
theorem dX9_beginsWith_7 : decode cX9_beginsWith 7 = .ok (.bipush 13, 2) := by decide +kernel
theorem dX9_beginsWith_9 : decode cX9_beginsWith 9 = .ok (.if_icmp .ge 22, 3) := by decide +kernel
theorem dX9_beginsWith_12 : decode cX9_beginsWith 12 = .ok (.lload_n 3, 1) := by decide +kernel
theorem dX9_beginsWith_13 : decode cX9_beginsWith 13 = .ok (.iload_n 2, 1) := by decide +kernel
theorem dX9_beginsWith_14 : decode cX9_beginsWith 14 = .ok (.i2l, 1) := by decide +kernel
theorem dX9_beginsWith_15 : decode cX9_beginsWith 15 = .ok (.lcmp, 1) := by decide +kernel
theorem dX9_beginsWith_16 : decode cX9_beginsWith 16 = .ok (.ifCond .le 15, 3) := by decide +kernel
theorem dX9_beginsWith_19 : decode cX9_beginsWith 19 = .ok (.lload_n 3, 1) := by decide +kernel
theorem dX9_beginsWith_20 : decode cX9_beginsWith 20 = .ok (.ldc2_w 248, 3) := by decide +kernel
theorem dX9_beginsWith_23 : decode cX9_beginsWith 23 = .ok (.ldiv, 1) := by decide +kernel
theorem dX9_beginsWith_24 : decode cX9_beginsWith 24 = .ok (.lstore_n 3, 1) := by decide +kernel
theorem dX9_beginsWith_25 : decode cX9_beginsWith 25 = .ok (.iinc 5 1, 3) := by decide +kernel
theorem dX9_beginsWith_28 : decode cX9_beginsWith 28 = .ok (.goto (-23), 3) := by decide +kernel
theorem dX9_beginsWith_31 : decode cX9_beginsWith 31 = .ok (.lload_n 3, 1) := by decide +kernel
theorem dX9_beginsWith_32 : decode cX9_beginsWith 32 = .ok (.iload_n 2, 1) := by decide +kernel
theorem dX9_beginsWith_33 : decode cX9_beginsWith 33 = .ok (.i2l, 1) := by decide +kernel
theorem dX9_beginsWith_34 : decode cX9_beginsWith 34 = .ok (.lcmp, 1) := by decide +kernel
theorem dX9_beginsWith_35 : decode cX9_beginsWith 35 = .ok (.ifCond .ne 7, 3) := by decide +kernel
theorem dX9_beginsWith_38 : decode cX9_beginsWith 38 = .ok (.iconst 1, 1) := by decide +kernel
theorem dX9_beginsWith_39 : decode cX9_beginsWith 39 = .ok (.goto 4, 3) := by decide +kernel
theorem dX9_beginsWith_42 : decode cX9_beginsWith 42 = .ok (.iconst 0, 1) := by decide +kernel
theorem dX9_beginsWith_43 : decode cX9_beginsWith 43 = .ok (.ireturn, 1) := by decide +kernel
theorem dX10_init_0 : decode cX10_init 0 = .ok (.aload_n 0, 1) := by decide +kernel
theorem dX10_init_1 : decode cX10_init 1 = .ok (.invokespecial 1, 3) := by decide +kernel
theorem dX10_init_4 : decode cX10_init 4 = .ok (.aload_n 0, 1) := by decide +kernel
theorem dX10_init_5 : decode cX10_init 5 = .ok (.sipush 640, 3) := by decide +kernel
theorem dX10_init_8 : decode cX10_init 8 = .ok (.newarray .int, 2) := by decide +kernel
theorem dX10_init_10 : decode cX10_init 10 = .ok (.putfield 7, 3) := by decide +kernel
theorem dX10_init_13 : decode cX10_init 13 = .ok (.aload_n 0, 1) := by decide +kernel
theorem dX10_init_14 : decode cX10_init 14 = .ok (.sipush 640, 3) := by decide +kernel
theorem dX10_init_17 : decode cX10_init 17 = .ok (.newarray .int, 2) := by decide +kernel
theorem dX10_init_19 : decode cX10_init 19 = .ok (.putfield 13, 3) := by decide +kernel
theorem dX10_init_22 : decode cX10_init 22 = .ok (.aload_n 0, 1) := by decide +kernel
theorem dX10_init_23 : decode cX10_init 23 = .ok (.sipush 3200, 3) := by decide +kernel
theorem dX10_init_26 : decode cX10_init 26 = .ok (.newarray .int, 2) := by decide +kernel
theorem dX10_init_28 : decode cX10_init 28 = .ok (.putfield 16, 3) := by decide +kernel
end
section
theorem dX10_init_31 : decode cX10_init 31 = .ok (.aload_n 0, 1) := by decide +kernel
theorem dX10_init_32 : decode cX10_init 32 = .ok (.bipush 14, 2) := by decide +kernel
theorem dX10_init_34 : decode cX10_init 34 = .ok (.newarray .int, 2) := by decide +kernel
theorem dX10_init_36 : decode cX10_init 36 = .ok (.putfield 19, 3) := by decide +kernel
theorem dX10_init_39 : decode cX10_init 39 = .ok (.aload_n 0, 1) := by decide +kernel
theorem dX10_init_40 : decode cX10_init 40 = .ok (.bipush 8, 2) := by decide +kernel
theorem dX10_init_42 : decode cX10_init 42 = .ok (.newarray .int, 2) := by decide +kernel
theorem dX10_init_44 : decode cX10_init 44 = .ok (.putfield 22, 3) := by decide +kernel
theorem dX10_init_47 : decode cX10_init 47 = .ok (.aload_n 0, 1) := by decide +kernel
theorem dX10_init_48 : decode cX10_init 48 = .ok (.bipush 8, 2) := by decide +kernel
theorem dX10_init_50 : decode cX10_init 50 = .ok (.newarray .int, 2) := by decide +kernel
theorem dX10_init_52 : decode cX10_init 52 = .ok (.putfield 25, 3) := by decide +kernel
theorem dX10_init_55 : decode cX10_init 55 = .ok (.aload_n 0, 1) := by decide +kernel
theorem dX10_init_56 : decode cX10_init 56 = .ok (.sipush 320, 3) := by decide +kernel
theorem dX10_init_59 : decode cX10_init 59 = .ok (.newarray .int, 2) := by decide +kernel
theorem dX10_init_61 : decode cX10_init 61 = .ok (.putfield 28, 3) := by decide +kernel
theorem dX10_init_64 : decode cX10_init 64 = .ok (.aload_n 0, 1) := by decide +kernel
theorem dX10_init_65 : decode cX10_init 65 = .ok (.bipush 8, 2) := by decide +kernel
theorem dX10_init_67 : decode cX10_init 67 = .ok (.newarray .int, 2) := by decide +kernel
theorem dX10_init_69 : decode cX10_init 69 = .ok (.putfield 31, 3) := by decide +kernel
theorem dX10_init_72 : decode cX10_init 72 = .ok (.aload_n 0, 1) := by decide +kernel
theorem dX10_init_73 : decode cX10_init 73 = .ok (.bipush 8, 2) := by decide +kernel
theorem dX10_init_75 : decode cX10_init 75 = .ok (.newarray .int, 2) := by decide +kernel
theorem dX10_init_77 : decode cX10_init 77 = .ok (.putfield 34, 3) := by decide +kernel
theorem dX10_init_80 : decode cX10_init 80 = .ok (.aload_n 0, 1) := by decide +kernel
theorem dX10_init_81 : decode cX10_init 81 = .ok (.bipush 8, 2) := by decide +kernel
theorem dX10_init_83 : decode cX10_init 83 = .ok (.newarray .int, 2) := by decide +kernel
theorem dX10_init_85 : decode cX10_init 85 = .ok (.putfield 37, 3) := by decide +kernel
theorem dX10_init_88 : decode cX10_init 88 = .ok (.aload_n 0, 1) := by decide +kernel
theorem dX10_init_89 : decode cX10_init 89 = .ok (.bipush 30, 2) := by decide +kernel
theorem dX10_init_91 : decode cX10_init 91 = .ok (.newarray .int, 2) := by decide +kernel
theorem dX10_init_93 : decode cX10_init 93 = .ok (.putfield 40, 3) := by decide +kernel
theorem dX10_init_96 : decode cX10_init 96 = .ok (.aload_n 0, 1) := by decide +kernel
theorem dX10_init_97 : decode cX10_init 97 = .ok (.bipush 30, 2) := by decide +kernel
theorem dX10_init_99 : decode cX10_init 99 = .ok (.newarray .int, 2) := by decide +kernel
theorem dX10_init_101 : decode cX10_init 101 = .ok (.putfield 43, 3) := by decide +kernel
theorem dX10_init_104 : decode cX10_init 104 = .ok (.aload_n 0, 1) := by decide +kernel
theorem dX10_init_105 : decode cX10_init 105 = .ok (.bipush 8, 2) := by decide +kernel
theorem dX10_init_107 : decode cX10_init 107 = .ok (.newarray .int, 2) := by decide +kernel
theorem dX10_init_109 : decode cX10_init 109 = .ok (.putfield 46, 3) := by decide +kernel
theorem dX10_init_112 : decode cX10_init 112 = .ok (.aload_n 0, 1) := by decide +kernel
theorem dX10_init_113 : decode cX10_init 113 = .ok (.bipush 80, 2) := by decide +kernel
theorem dX10_init_115 : decode cX10_init 115 = .ok (.newarray .int, 2) := by decide +kernel
theorem dX10_init_117 : decode cX10_init 117 = .ok (.putfield 49, 3) := by decide +kernel
theorem dX10_init_120 : decode cX10_init 120 = .ok (.aload_n 0, 1) := by decide +kernel
theorem dX10_init_121 : decode cX10_init 121 = .ok (.bipush 80, 2) := by decide +kernel
theorem dX10_init_123 : decode cX10_init 123 = .ok (.newarray .int, 2) := by decide +kernel
theorem dX10_init_125 : decode cX10_init 125 = .ok (.putfield 52, 3) := by decide +kernel
theorem dX10_init_128 : decode cX10_init 128 = .ok (.aload_n 0, 1) := by decide +kernel
theorem dX10_init_129 : decode cX10_init 129 = .ok (.sipush 400, 3) := by decide +kernel
theorem dX10_init_132 : decode cX10_init 132 = .ok (.newarray .int, 2) := by decide +kernel
theorem dX10_init_134 : decode cX10_init 134 = .ok (.putfield 55, 3) := by decide +kernel
theorem dX10_init_137 : decode cX10_init 137 = .ok (.aload_n 0, 1) := by decide +kernel
theorem dX10_init_138 : decode cX10_init 138 = .ok (.getfield 7, 3) := by decide +kernel
theorem dX10_init_141 : decode cX10_init 141 = .ok (.iconst 3, 1) := by decide +kernel
theorem dX10_init_142 : decode cX10_init 142 = .ok (.iconst 5, 1) := by decide +kernel
theorem dX10_init_143 : decode cX10_init 143 = .ok (.iastore, 1) := by decide +kernel
theorem dX10_init_144 : decode cX10_init 144 = .ok (.return_, 1) := by decide +kernel
theorem dX10_in_0 : decode cX10_in 0 = .ok (.iload_n 0, 1) := by decide +kernel
theorem dX10_in_1 : decode cX10_in 1 = .ok (.iload_n 1, 1) := by decide +kernel
theorem dX10_in_2 : decode cX10_in 2 = .ok (.if_icmp .lt 12, 3) := by decide +kernel
theorem dX10_in_5 : decode cX10_in 5 = .ok (.iload_n 0, 1) := by decide +kernel
theorem dX10_in_6 : decode cX10_in 6 = .ok (.iload_n 2, 1) := by decide +kernel
theorem dX10_in_7 : decode cX10_in 7 = .ok (.if_icmp .gt 7, 3) := by decide +kernel
theorem dX10_in_10 : decode cX10_in 10 = .ok (.iconst 1, 1) := by decide +kernel
theorem dX10_in_11 : decode cX10_in 11 = .ok (.goto 4, 3) := by decide +kernel
theorem dX10_in_14 : decode cX10_in 14 = .ok (.iconst 0, 1) := by decide +kernel
theorem dX10_in_15 : decode cX10_in 15 = .ok (.ireturn, 1) := by decide +kernel
theorem dX10_keeps_0 : decode cX10_keeps 0 = .ok (.aload_n 0, 1) := by decide +kernel
theorem dX10_keeps_1 : decode cX10_keeps 1 = .ok (.getfield 58, 3) := by decide +kernel
theorem dX10_keeps_4 : decode cX10_keeps 4 = .ok (.iconst 5, 1) := by decide +kernel
theorem dX10_keeps_5 : decode cX10_keeps 5 = .ok (.if_icmp .ne 44, 3) := by decide +kernel
theorem dX10_keeps_8 : decode cX10_keeps 8 = .ok (.iconst 0, 1) := by decide +kernel
theorem dX10_keeps_9 : decode cX10_keeps 9 = .ok (.istore_n 2, 1) := by decide +kernel
theorem dX10_keeps_10 : decode cX10_keeps 10 = .ok (.iload_n 2, 1) := by decide +kernel
theorem dX10_keeps_11 : decode cX10_keeps 11 = .ok (.sipush 2560, 3) := by decide +kernel
theorem dX10_keeps_14 : decode cX10_keeps 14 = .ok (.if_icmp .ge 25, 3) := by decide +kernel
theorem dX10_keeps_17 : decode cX10_keeps 17 = .ok (.aload_n 0, 1) := by decide +kernel
theorem dX10_keeps_18 : decode cX10_keeps 18 = .ok (.getfield 16, 3) := by decide +kernel
theorem dX10_keeps_21 : decode cX10_keeps 21 = .ok (.iload_n 2, 1) := by decide +kernel
theorem dX10_keeps_22 : decode cX10_keeps 22 = .ok (.aload_n 0, 1) := by decide +kernel
theorem dX10_keeps_23 : decode cX10_keeps 23 = .ok (.getfield 16, 3) := by decide +kernel
theorem dX10_keeps_26 : decode cX10_keeps 26 = .ok (.iload_n 2, 1) := by decide +kernel
theorem dX10_keeps_27 : decode cX10_keeps 27 = .ok (.sipush 640, 3) := by decide +kernel
theorem dX10_keeps_30 : decode cX10_keeps 30 = .ok (.iadd, 1) := by decide +kernel
theorem dX10_keeps_31 : decode cX10_keeps 31 = .ok (.iaload, 1) := by decide +kernel
theorem dX10_keeps_32 : decode cX10_keeps 32 = .ok (.iastore, 1) := by decide +kernel
theorem dX10_keeps_33 : decode cX10_keeps 33 = .ok (.iinc 2 1, 3) := by decide +kernel
theorem dX10_keeps_36 : decode cX10_keeps 36 = .ok (.goto (-26), 3) := by decide +kernel
theorem dX10_keeps_39 : decode cX10_keeps 39 = .ok (.aload_n 0, 1) := by decide +kernel
theorem dX10_keeps_40 : decode cX10_keeps 40 = .ok (.dup, 1) := by decide +kernel
theorem dX10_keeps_41 : decode cX10_keeps 41 = .ok (.getfield 58, 3) := by decide +kernel
theorem dX10_keeps_44 : decode cX10_keeps 44 = .ok (.iconst 1, 1) := by decide +kernel
theorem dX10_keeps_45 : decode cX10_keeps 45 = .ok (.isub, 1) := by decide +kernel
theorem dX10_keeps_46 : decode cX10_keeps 46 = .ok (.putfield 58, 3) := by decide +kernel
theorem dX10_keeps_49 : decode cX10_keeps 49 = .ok (.iconst 0, 1) := by decide +kernel
theorem dX10_keeps_50 : decode cX10_keeps 50 = .ok (.istore_n 2, 1) := by decide +kernel
theorem dX10_keeps_51 : decode cX10_keeps 51 = .ok (.iload_n 2, 1) := by decide +kernel
theorem dX10_keeps_52 : decode cX10_keeps 52 = .ok (.sipush 640, 3) := by decide +kernel
theorem dX10_keeps_55 : decode cX10_keeps 55 = .ok (.if_icmp .ge 27, 3) := by decide +kernel
theorem dX10_keeps_58 : decode cX10_keeps 58 = .ok (.aload_n 0, 1) := by decide +kernel
theorem dX10_keeps_59 : decode cX10_keeps 59 = .ok (.getfield 16, 3) := by decide +kernel
theorem dX10_keeps_62 : decode cX10_keeps 62 = .ok (.sipush 640, 3) := by decide +kernel
theorem dX10_keeps_65 : decode cX10_keeps 65 = .ok (.aload_n 0, 1) := by decide +kernel
theorem dX10_keeps_66 : decode cX10_keeps 66 = .ok (.getfield 58, 3) := by decide +kernel
theorem dX10_keeps_69 : decode cX10_keeps 69 = .ok (.imul, 1) := by decide +kernel
theorem dX10_keeps_70 : decode cX10_keeps 70 = .ok (.iload_n 2, 1) := by decide +kernel
theorem dX10_keeps_71 : decode cX10_keeps 71 = .ok (.iadd, 1) := by decide +kernel
theorem dX10_keeps_72 : decode cX10_keeps 72 = .ok (.aload_n 1, 1) := by decide +kernel
theorem dX10_keeps_73 : decode cX10_keeps 73 = .ok (.iload_n 2, 1) := by decide +kernel
theorem dX10_keeps_74 : decode cX10_keeps 74 = .ok (.iaload, 1) := by decide +kernel
theorem dX10_keeps_75 : decode cX10_keeps 75 = .ok (.iastore, 1) := by decide +kernel
theorem dX10_keeps_76 : decode cX10_keeps 76 = .ok (.iinc 2 1, 3) := by decide +kernel
theorem dX10_keeps_79 : decode cX10_keeps 79 = .ok (.goto (-28), 3) := by decide +kernel
theorem dX10_keeps_82 : decode cX10_keeps 82 = .ok (.aload_n 0, 1) := by decide +kernel
theorem dX10_keeps_83 : decode cX10_keeps 83 = .ok (.dup, 1) := by decide +kernel
theorem dX10_keeps_84 : decode cX10_keeps 84 = .ok (.getfield 58, 3) := by decide +kernel
theorem dX10_keeps_87 : decode cX10_keeps 87 = .ok (.iconst 1, 1) := by decide +kernel
theorem dX10_keeps_88 : decode cX10_keeps 88 = .ok (.iadd, 1) := by decide +kernel
theorem dX10_keeps_89 : decode cX10_keeps 89 = .ok (.putfield 58, 3) := by decide +kernel
theorem dX10_keeps_92 : decode cX10_keeps 92 = .ok (.return_, 1) := by decide +kernel
theorem dX10_copies_0 : decode cX10_copies 0 = .ok (.iconst 0, 1) := by decide +kernel
theorem dX10_copies_1 : decode cX10_copies 1 = .ok (.istore_n 2, 1) := by decide +kernel
theorem dX10_copies_2 : decode cX10_copies 2 = .ok (.iload_n 2, 1) := by decide +kernel
theorem dX10_copies_3 : decode cX10_copies 3 = .ok (.sipush 640, 3) := by decide +kernel
theorem dX10_copies_6 : decode cX10_copies 6 = .ok (.if_icmp .ge 15, 3) := by decide +kernel
theorem dX10_copies_9 : decode cX10_copies 9 = .ok (.aload_n 1, 1) := by decide +kernel
theorem dX10_copies_10 : decode cX10_copies 10 = .ok (.iload_n 2, 1) := by decide +kernel
theorem dX10_copies_11 : decode cX10_copies 11 = .ok (.aload_n 0, 1) := by decide +kernel
theorem dX10_copies_12 : decode cX10_copies 12 = .ok (.iload_n 2, 1) := by decide +kernel
theorem dX10_copies_13 : decode cX10_copies 13 = .ok (.iaload, 1) := by decide +kernel
theorem dX10_copies_14 : decode cX10_copies 14 = .ok (.iastore, 1) := by decide +kernel
theorem dX10_copies_15 : decode cX10_copies 15 = .ok (.iinc 2 1, 3) := by decide +kernel
theorem dX10_copies_18 : decode cX10_copies 18 = .ok (.goto (-16), 3) := by decide +kernel
theorem dX10_copies_21 : decode cX10_copies 21 = .ok (.return_, 1) := by decide +kernel
theorem dX10_sets_0 : decode cX10_sets 0 = .ok (.aload_n 0, 1) := by decide +kernel
theorem dX10_sets_1 : decode cX10_sets 1 = .ok (.aload_n 0, 1) := by decide +kernel
theorem dX10_sets_2 : decode cX10_sets 2 = .ok (.getfield 7, 3) := by decide +kernel
theorem dX10_sets_5 : decode cX10_sets 5 = .ok (.invokevirtual 62, 3) := by decide +kernel
theorem dX10_sets_8 : decode cX10_sets 8 = .ok (.aload_n 0, 1) := by decide +kernel
theorem dX10_sets_9 : decode cX10_sets 9 = .ok (.getfield 7, 3) := by decide +kernel
theorem dX10_sets_12 : decode cX10_sets 12 = .ok (.iload_n 1, 1) := by decide +kernel
theorem dX10_sets_13 : decode cX10_sets 13 = .ok (.iaload, 1) := by decide +kernel
theorem dX10_sets_14 : decode cX10_sets 14 = .ok (.istore_n 3, 1) := by decide +kernel
theorem dX10_sets_15 : decode cX10_sets 15 = .ok (.aload_n 0, 1) := by decide +kernel
theorem dX10_sets_16 : decode cX10_sets 16 = .ok (.getfield 7, 3) := by decide +kernel
theorem dX10_sets_19 : decode cX10_sets 19 = .ok (.iload_n 1, 1) := by decide +kernel
theorem dX10_sets_20 : decode cX10_sets 20 = .ok (.iload_n 2, 1) := by decide +kernel
theorem dX10_sets_21 : decode cX10_sets 21 = .ok (.iastore, 1) := by decide +kernel
theorem dX10_sets_22 : decode cX10_sets 22 = .ok (.iload_n 3, 1) := by decide +kernel
theorem dX10_sets_23 : decode cX10_sets 23 = .ok (.ireturn, 1) := by decide +kernel
theorem dX10_isSwitch_0 : decode cX10_isSwitch 0 = .ok (.iload_n 1, 1) := by decide +kernel
theorem dX10_isSwitch_1 : decode cX10_isSwitch 1 = .ok (.iconst 0, 1) := by decide +kernel
theorem dX10_isSwitch_2 : decode cX10_isSwitch 2 = .ok (.aload_n 0, 1) := by decide +kernel
theorem dX10_isSwitch_3 : decode cX10_isSwitch 3 = .ok (.getfield 7, 3) := by decide +kernel
theorem dX10_isSwitch_6 : decode cX10_isSwitch 6 = .ok (.iconst 0, 1) := by decide +kernel
theorem dX10_isSwitch_7 : decode cX10_isSwitch 7 = .ok (.iaload, 1) := by decide +kernel
theorem dX10_isSwitch_8 : decode cX10_isSwitch 8 = .ok (.iconst 1, 1) := by decide +kernel
theorem dX10_isSwitch_9 : decode cX10_isSwitch 9 = .ok (.isub, 1) := by decide +kernel
theorem dX10_isSwitch_10 : decode cX10_isSwitch 10 = .ok (.invokestatic 66, 3) := by decide +kernel
theorem dX10_isSwitch_13 : decode cX10_isSwitch 13 = .ok (.ireturn, 1) := by decide +kernel
theorem dX10_isNumber_0 : decode cX10_isNumber 0 = .ok (.iload_n 0, 1) := by decide +kernel
theorem dX10_isNumber_1 : decode cX10_isNumber 1 = .ok (.iconst 1, 1) := by decide +kernel
theorem dX10_isNumber_2 : decode cX10_isNumber 2 = .ok (.ldc 70, 2) := by decide +kernel
theorem dX10_isNumber_4 : decode cX10_isNumber 4 = .ok (.invokestatic 66, 3) := by decide +kernel
theorem dX10_isNumber_7 : decode cX10_isNumber 7 = .ok (.ireturn, 1) := by decide +kernel
theorem dX10_of_0 : decode cX10_of 0 = .ok (.aload_n 0, 1) := by decide +kernel
theorem dX10_of_1 : decode cX10_of 1 = .ok (.getfield 7, 3) := by decide +kernel
theorem dX10_of_4 : decode cX10_of 4 = .ok (.bipush 30, 2) := by decide +kernel
theorem dX10_of_6 : decode cX10_of 6 = .ok (.bipush 8, 2) := by decide +kernel
theorem dX10_of_8 : decode cX10_of 8 = .ok (.iload_n 1, 1) := by decide +kernel
theorem dX10_of_9 : decode cX10_of 9 = .ok (.imul, 1) := by decide +kernel
theorem dX10_of_10 : decode cX10_of 10 = .ok (.iadd, 1) := by decide +kernel
theorem dX10_of_11 : decode cX10_of 11 = .ok (.iload_n 2, 1) := by decide +kernel
theorem dX10_of_12 : decode cX10_of 12 = .ok (.iadd, 1) := by decide +kernel
theorem dX10_of_13 : decode cX10_of 13 = .ok (.iaload, 1) := by decide +kernel
theorem dX10_of_14 : decode cX10_of 14 = .ok (.ireturn, 1) := by decide +kernel
theorem dX10_serves_0 : decode cX10_serves 0 = .ok (.aload_n 0, 1) := by decide +kernel
theorem dX10_serves_1 : decode cX10_serves 1 = .ok (.iload_n 1, 1) := by decide +kernel
theorem dX10_serves_2 : decode cX10_serves 2 = .ok (.iconst 0, 1) := by decide +kernel
theorem dX10_serves_3 : decode cX10_serves 3 = .ok (.invokevirtual 71, 3) := by decide +kernel
theorem dX10_serves_6 : decode cX10_serves 6 = .ok (.aload_n 0, 1) := by decide +kernel
theorem dX10_serves_7 : decode cX10_serves 7 = .ok (.iload_n 1, 1) := by decide +kernel
theorem dX10_serves_8 : decode cX10_serves 8 = .ok (.iconst 2, 1) := by decide +kernel
theorem dX10_serves_9 : decode cX10_serves 9 = .ok (.invokevirtual 71, 3) := by decide +kernel
theorem dX10_serves_12 : decode cX10_serves 12 = .ok (.if_icmp .ne 7, 3) := by decide +kernel
theorem dX10_serves_15 : decode cX10_serves 15 = .ok (.iconst 1, 1) := by decide +kernel
theorem dX10_serves_16 : decode cX10_serves 16 = .ok (.goto 4, 3) := by decide +kernel
theorem dX10_serves_19 : decode cX10_serves 19 = .ok (.iconst 0, 1) := by decide +kernel
theorem dX10_serves_20 : decode cX10_serves 20 = .ok (.ireturn, 1) := by decide +kernel
theorem dX10_costOf_0 : decode cX10_costOf 0 = .ok (.aload_n 0, 1) := by decide +kernel
theorem dX10_costOf_1 : decode cX10_costOf 1 = .ok (.iload_n 1, 1) := by decide +kernel
theorem dX10_costOf_2 : decode cX10_costOf 2 = .ok (.invokevirtual 75, 3) := by decide +kernel
theorem dX10_costOf_5 : decode cX10_costOf 5 = .ok (.ifCond .eq 7, 3) := by decide +kernel
theorem dX10_costOf_8 : decode cX10_costOf 8 = .ok (.iconst 0, 1) := by decide +kernel
theorem dX10_costOf_9 : decode cX10_costOf 9 = .ok (.goto 11, 3) := by decide +kernel
theorem dX10_costOf_12 : decode cX10_costOf 12 = .ok (.aload_n 0, 1) := by decide +kernel
theorem dX10_costOf_13 : decode cX10_costOf 13 = .ok (.iload_n 1, 1) := by decide +kernel
theorem dX10_costOf_14 : decode cX10_costOf 14 = .ok (.iconst 3, 1) := by decide +kernel
theorem dX10_costOf_15 : decode cX10_costOf 15 = .ok (.iload_n 2, 1) := by decide +kernel
theorem dX10_costOf_16 : decode cX10_costOf 16 = .ok (.iadd, 1) := by decide +kernel
theorem dX10_costOf_17 : decode cX10_costOf 17 = .ok (.invokevirtual 71, 3) := by decide +kernel
theorem dX10_costOf_20 : decode cX10_costOf 20 = .ok (.ireturn, 1) := by decide +kernel
theorem dX10_addSwitch_0 : decode cX10_addSwitch 0 = .ok (.aload_n 0, 1) := by decide +kernel
theorem dX10_addSwitch_1 : decode cX10_addSwitch 1 = .ok (.getfield 7, 3) := by decide +kernel
theorem dX10_addSwitch_4 : decode cX10_addSwitch 4 = .ok (.iconst 0, 1) := by decide +kernel
theorem dX10_addSwitch_5 : decode cX10_addSwitch 5 = .ok (.iaload, 1) := by decide +kernel
theorem dX10_addSwitch_6 : decode cX10_addSwitch 6 = .ok (.bipush 8, 2) := by decide +kernel
theorem dX10_addSwitch_8 : decode cX10_addSwitch 8 = .ok (.if_icmp .ne 6, 3) := by decide +kernel
theorem dX10_addSwitch_11 : decode cX10_addSwitch 11 = .ok (.bipush (-3), 2) := by decide +kernel
theorem dX10_addSwitch_13 : decode cX10_addSwitch 13 = .ok (.ireturn, 1) := by decide +kernel
theorem dX10_addSwitch_14 : decode cX10_addSwitch 14 = .ok (.aload_n 0, 1) := by decide +kernel
theorem dX10_addSwitch_15 : decode cX10_addSwitch 15 = .ok (.aload_n 0, 1) := by decide +kernel
theorem dX10_addSwitch_16 : decode cX10_addSwitch 16 = .ok (.getfield 7, 3) := by decide +kernel
theorem dX10_addSwitch_19 : decode cX10_addSwitch 19 = .ok (.invokevirtual 62, 3) := by decide +kernel
theorem dX10_addSwitch_22 : decode cX10_addSwitch 22 = .ok (.aload_n 0, 1) := by decide +kernel
theorem dX10_addSwitch_23 : decode cX10_addSwitch 23 = .ok (.getfield 7, 3) := by decide +kernel
theorem dX10_addSwitch_26 : decode cX10_addSwitch 26 = .ok (.bipush 10, 2) := by decide +kernel
theorem dX10_addSwitch_28 : decode cX10_addSwitch 28 = .ok (.aload_n 0, 1) := by decide +kernel
theorem dX10_addSwitch_29 : decode cX10_addSwitch 29 = .ok (.getfield 7, 3) := by decide +kernel
theorem dX10_addSwitch_32 : decode cX10_addSwitch 32 = .ok (.iconst 0, 1) := by decide +kernel
theorem dX10_addSwitch_33 : decode cX10_addSwitch 33 = .ok (.iaload, 1) := by decide +kernel
theorem dX10_addSwitch_34 : decode cX10_addSwitch 34 = .ok (.iadd, 1) := by decide +kernel
theorem dX10_addSwitch_35 : decode cX10_addSwitch 35 = .ok (.iconst 0, 1) := by decide +kernel
theorem dX10_addSwitch_36 : decode cX10_addSwitch 36 = .ok (.iastore, 1) := by decide +kernel
theorem dX10_addSwitch_37 : decode cX10_addSwitch 37 = .ok (.aload_n 0, 1) := by decide +kernel
theorem dX10_addSwitch_38 : decode cX10_addSwitch 38 = .ok (.getfield 7, 3) := by decide +kernel
theorem dX10_addSwitch_41 : decode cX10_addSwitch 41 = .ok (.bipush 18, 2) := by decide +kernel
theorem dX10_addSwitch_43 : decode cX10_addSwitch 43 = .ok (.aload_n 0, 1) := by decide +kernel
theorem dX10_addSwitch_44 : decode cX10_addSwitch 44 = .ok (.getfield 7, 3) := by decide +kernel
theorem dX10_addSwitch_47 : decode cX10_addSwitch 47 = .ok (.iconst 0, 1) := by decide +kernel
theorem dX10_addSwitch_48 : decode cX10_addSwitch 48 = .ok (.iaload, 1) := by decide +kernel
theorem dX10_addSwitch_49 : decode cX10_addSwitch 49 = .ok (.iadd, 1) := by decide +kernel
theorem dX10_addSwitch_50 : decode cX10_addSwitch 50 = .ok (.bipush 30, 2) := by decide +kernel
theorem dX10_addSwitch_52 : decode cX10_addSwitch 52 = .ok (.iastore, 1) := by decide +kernel
theorem dX10_addSwitch_53 : decode cX10_addSwitch 53 = .ok (.aload_n 0, 1) := by decide +kernel
theorem dX10_addSwitch_54 : decode cX10_addSwitch 54 = .ok (.getfield 7, 3) := by decide +kernel
theorem dX10_addSwitch_57 : decode cX10_addSwitch 57 = .ok (.iconst 0, 1) := by decide +kernel
theorem dX10_addSwitch_58 : decode cX10_addSwitch 58 = .ok (.dup2, 1) := by decide +kernel
theorem dX10_addSwitch_59 : decode cX10_addSwitch 59 = .ok (.iaload, 1) := by decide +kernel
theorem dX10_addSwitch_60 : decode cX10_addSwitch 60 = .ok (.iconst 1, 1) := by decide +kernel
theorem dX10_addSwitch_61 : decode cX10_addSwitch 61 = .ok (.iadd, 1) := by decide +kernel
theorem dX10_addSwitch_62 : decode cX10_addSwitch 62 = .ok (.iastore, 1) := by decide +kernel
theorem dX10_addSwitch_63 : decode cX10_addSwitch 63 = .ok (.aload_n 0, 1) := by decide +kernel
theorem dX10_addSwitch_64 : decode cX10_addSwitch 64 = .ok (.getfield 7, 3) := by decide +kernel
theorem dX10_addSwitch_67 : decode cX10_addSwitch 67 = .ok (.iconst 0, 1) := by decide +kernel
theorem dX10_addSwitch_68 : decode cX10_addSwitch 68 = .ok (.iaload, 1) := by decide +kernel
theorem dX10_addSwitch_69 : decode cX10_addSwitch 69 = .ok (.iconst 1, 1) := by decide +kernel
theorem dX10_addSwitch_70 : decode cX10_addSwitch 70 = .ok (.isub, 1) := by decide +kernel
theorem dX10_addSwitch_71 : decode cX10_addSwitch 71 = .ok (.ireturn, 1) := by decide +kernel
theorem dX10_setLookup_0 : decode cX10_setLookup 0 = .ok (.aload_n 0, 1) := by decide +kernel
theorem dX10_setLookup_1 : decode cX10_setLookup 1 = .ok (.iload_n 1, 1) := by decide +kernel
theorem dX10_setLookup_2 : decode cX10_setLookup 2 = .ok (.invokevirtual 79, 3) := by decide +kernel
theorem dX10_setLookup_5 : decode cX10_setLookup 5 = .ok (.ifCond .eq 23, 3) := by decide +kernel
theorem dX10_setLookup_8 : decode cX10_setLookup 8 = .ok (.aload_n 0, 1) := by decide +kernel
theorem dX10_setLookup_9 : decode cX10_setLookup 9 = .ok (.bipush 10, 2) := by decide +kernel
theorem dX10_setLookup_11 : decode cX10_setLookup 11 = .ok (.iload_n 1, 1) := by decide +kernel
theorem dX10_setLookup_12 : decode cX10_setLookup 12 = .ok (.iadd, 1) := by decide +kernel
theorem dX10_setLookup_13 : decode cX10_setLookup 13 = .ok (.iload_n 2, 1) := by decide +kernel
theorem dX10_setLookup_14 : decode cX10_setLookup 14 = .ok (.ifCond .eq 7, 3) := by decide +kernel
theorem dX10_setLookup_17 : decode cX10_setLookup 17 = .ok (.iconst 1, 1) := by decide +kernel
theorem dX10_setLookup_18 : decode cX10_setLookup 18 = .ok (.goto 4, 3) := by decide +kernel
theorem dX10_setLookup_21 : decode cX10_setLookup 21 = .ok (.iconst 0, 1) := by decide +kernel
theorem dX10_setLookup_22 : decode cX10_setLookup 22 = .ok (.invokevirtual 82, 3) := by decide +kernel
theorem dX10_setLookup_25 : decode cX10_setLookup 25 = .ok (.goto 4, 3) := by decide +kernel
theorem dX10_setLookup_28 : decode cX10_setLookup 28 = .ok (.iconst (-1), 1) := by decide +kernel
theorem dX10_setLookup_29 : decode cX10_setLookup 29 = .ok (.ireturn, 1) := by decide +kernel
theorem dX10_setCodes_0 : decode cX10_setCodes 0 = .ok (.aload_n 0, 1) := by decide +kernel
theorem dX10_setCodes_1 : decode cX10_setCodes 1 = .ok (.iload_n 1, 1) := by decide +kernel
theorem dX10_setCodes_2 : decode cX10_setCodes 2 = .ok (.invokevirtual 79, 3) := by decide +kernel
theorem dX10_setCodes_5 : decode cX10_setCodes 5 = .ok (.ifCond .eq 31, 3) := by decide +kernel
theorem dX10_setCodes_8 : decode cX10_setCodes 8 = .ok (.iload_n 2, 1) := by decide +kernel
theorem dX10_setCodes_9 : decode cX10_setCodes 9 = .ok (.iconst 0, 1) := by decide +kernel
theorem dX10_setCodes_10 : decode cX10_setCodes 10 = .ok (.bipush 62, 2) := by decide +kernel
theorem dX10_setCodes_12 : decode cX10_setCodes 12 = .ok (.invokestatic 66, 3) := by decide +kernel
theorem dX10_setCodes_15 : decode cX10_setCodes 15 = .ok (.ifCond .eq 21, 3) := by decide +kernel
theorem dX10_setCodes_18 : decode cX10_setCodes 18 = .ok (.iload_n 2, 1) := by decide +kernel
theorem dX10_setCodes_19 : decode cX10_setCodes 19 = .ok (.iconst 2, 1) := by decide +kernel
theorem dX10_setCodes_20 : decode cX10_setCodes 20 = .ok (.irem, 1) := by decide +kernel
theorem dX10_setCodes_21 : decode cX10_setCodes 21 = .ok (.ifCond .ne 15, 3) := by decide +kernel
theorem dX10_setCodes_24 : decode cX10_setCodes 24 = .ok (.aload_n 0, 1) := by decide +kernel
theorem dX10_setCodes_25 : decode cX10_setCodes 25 = .ok (.bipush 18, 2) := by decide +kernel
theorem dX10_setCodes_27 : decode cX10_setCodes 27 = .ok (.iload_n 1, 1) := by decide +kernel
theorem dX10_setCodes_28 : decode cX10_setCodes 28 = .ok (.iadd, 1) := by decide +kernel
theorem dX10_setCodes_29 : decode cX10_setCodes 29 = .ok (.iload_n 2, 1) := by decide +kernel
theorem dX10_setCodes_30 : decode cX10_setCodes 30 = .ok (.invokevirtual 82, 3) := by decide +kernel
theorem dX10_setCodes_33 : decode cX10_setCodes 33 = .ok (.goto 4, 3) := by decide +kernel
theorem dX10_setCodes_36 : decode cX10_setCodes 36 = .ok (.iconst (-1), 1) := by decide +kernel
theorem dX10_setCodes_37 : decode cX10_setCodes 37 = .ok (.ireturn, 1) := by decide +kernel
theorem dX10_setLimit_0 : decode cX10_setLimit 0 = .ok (.iload_n 1, 1) := by decide +kernel
theorem dX10_setLimit_1 : decode cX10_setLimit 1 = .ok (.iconst 1, 1) := by decide +kernel
theorem dX10_setLimit_2 : decode cX10_setLimit 2 = .ok (.bipush 6, 2) := by decide +kernel
theorem dX10_setLimit_4 : decode cX10_setLimit 4 = .ok (.invokestatic 66, 3) := by decide +kernel
theorem dX10_setLimit_7 : decode cX10_setLimit 7 = .ok (.ifCond .eq 12, 3) := by decide +kernel
theorem dX10_setLimit_10 : decode cX10_setLimit 10 = .ok (.aload_n 0, 1) := by decide +kernel
theorem dX10_setLimit_11 : decode cX10_setLimit 11 = .ok (.iconst 3, 1) := by decide +kernel
theorem dX10_setLimit_12 : decode cX10_setLimit 12 = .ok (.iload_n 1, 1) := by decide +kernel
theorem dX10_setLimit_13 : decode cX10_setLimit 13 = .ok (.invokevirtual 82, 3) := by decide +kernel
theorem dX10_setLimit_16 : decode cX10_setLimit 16 = .ok (.goto 4, 3) := by decide +kernel
theorem dX10_setLimit_19 : decode cX10_setLimit 19 = .ok (.iconst (-1), 1) := by decide +kernel
theorem dX10_setLimit_20 : decode cX10_setLimit 20 = .ok (.ireturn, 1) := by decide +kernel
theorem dX10_isRoute_0 : decode cX10_isRoute 0 = .ok (.aload_n 0, 1) := by decide +kernel
theorem dX10_isRoute_1 : decode cX10_isRoute 1 = .ok (.iload_n 1, 1) := by decide +kernel
theorem dX10_isRoute_2 : decode cX10_isRoute 2 = .ok (.invokevirtual 79, 3) := by decide +kernel
theorem dX10_isRoute_5 : decode cX10_isRoute 5 = .ok (.ifCond .eq 48, 3) := by decide +kernel
theorem dX10_isRoute_8 : decode cX10_isRoute 8 = .ok (.aload_n 0, 1) := by decide +kernel
theorem dX10_isRoute_9 : decode cX10_isRoute 9 = .ok (.iload_n 3, 1) := by decide +kernel
theorem dX10_isRoute_10 : decode cX10_isRoute 10 = .ok (.invokevirtual 79, 3) := by decide +kernel
theorem dX10_isRoute_13 : decode cX10_isRoute 13 = .ok (.ifCond .eq 40, 3) := by decide +kernel
theorem dX10_isRoute_16 : decode cX10_isRoute 16 = .ok (.iload_n 2, 1) := by decide +kernel
theorem dX10_isRoute_17 : decode cX10_isRoute 17 = .ok (.iconst 0, 1) := by decide +kernel
theorem dX10_isRoute_18 : decode cX10_isRoute 18 = .ok (.ldc 70, 2) := by decide +kernel
theorem dX10_isRoute_20 : decode cX10_isRoute 20 = .ok (.invokestatic 66, 3) := by decide +kernel
theorem dX10_isRoute_23 : decode cX10_isRoute 23 = .ok (.ifCond .eq 30, 3) := by decide +kernel
theorem dX10_isRoute_26 : decode cX10_isRoute 26 = .ok (.iload 4, 2) := by decide +kernel
theorem dX10_isRoute_28 : decode cX10_isRoute 28 = .ok (.iconst 0, 1) := by decide +kernel
theorem dX10_isRoute_29 : decode cX10_isRoute 29 = .ok (.sipush 1000, 3) := by decide +kernel
theorem dX10_isRoute_32 : decode cX10_isRoute 32 = .ok (.invokestatic 66, 3) := by decide +kernel
theorem dX10_isRoute_35 : decode cX10_isRoute 35 = .ok (.ifCond .eq 18, 3) := by decide +kernel
theorem dX10_isRoute_38 : decode cX10_isRoute 38 = .ok (.iload 5, 2) := by decide +kernel
theorem dX10_isRoute_40 : decode cX10_isRoute 40 = .ok (.iconst 1, 1) := by decide +kernel
theorem dX10_isRoute_41 : decode cX10_isRoute 41 = .ok (.bipush 20, 2) := by decide +kernel
theorem dX10_isRoute_43 : decode cX10_isRoute 43 = .ok (.invokestatic 66, 3) := by decide +kernel
theorem dX10_isRoute_46 : decode cX10_isRoute 46 = .ok (.ifCond .eq 7, 3) := by decide +kernel
theorem dX10_isRoute_49 : decode cX10_isRoute 49 = .ok (.iconst 1, 1) := by decide +kernel
theorem dX10_isRoute_50 : decode cX10_isRoute 50 = .ok (.goto 4, 3) := by decide +kernel
theorem dX10_isRoute_53 : decode cX10_isRoute 53 = .ok (.iconst 0, 1) := by decide +kernel
theorem dX10_isRoute_54 : decode cX10_isRoute 54 = .ok (.ireturn, 1) := by decide +kernel
theorem dX10_routes_0 : decode cX10_routes 0 = .ok (.bipush 30, 2) := by decide +kernel
theorem dX10_routes_2 : decode cX10_routes 2 = .ok (.bipush 8, 2) := by decide +kernel
theorem dX10_routes_4 : decode cX10_routes 4 = .ok (.aload_n 0, 1) := by decide +kernel
theorem dX10_routes_5 : decode cX10_routes 5 = .ok (.getfield 7, 3) := by decide +kernel
theorem dX10_routes_8 : decode cX10_routes 8 = .ok (.iconst 1, 1) := by decide +kernel
theorem dX10_routes_9 : decode cX10_routes 9 = .ok (.iaload, 1) := by decide +kernel
theorem dX10_routes_10 : decode cX10_routes 10 = .ok (.imul, 1) := by decide +kernel
theorem dX10_routes_11 : decode cX10_routes 11 = .ok (.iadd, 1) := by decide +kernel
theorem dX10_routes_12 : decode cX10_routes 12 = .ok (.istore 6, 2) := by decide +kernel
theorem dX10_routes_14 : decode cX10_routes 14 = .ok (.aload_n 0, 1) := by decide +kernel
theorem dX10_routes_15 : decode cX10_routes 15 = .ok (.getfield 7, 3) := by decide +kernel
theorem dX10_routes_18 : decode cX10_routes 18 = .ok (.iload 6, 2) := by decide +kernel
theorem dX10_routes_20 : decode cX10_routes 20 = .ok (.iload_n 1, 1) := by decide +kernel
theorem dX10_routes_21 : decode cX10_routes 21 = .ok (.iastore, 1) := by decide +kernel
theorem dX10_routes_22 : decode cX10_routes 22 = .ok (.aload_n 0, 1) := by decide +kernel
theorem dX10_routes_23 : decode cX10_routes 23 = .ok (.getfield 7, 3) := by decide +kernel
theorem dX10_routes_26 : decode cX10_routes 26 = .ok (.iload 6, 2) := by decide +kernel
theorem dX10_routes_28 : decode cX10_routes 28 = .ok (.iconst 1, 1) := by decide +kernel
theorem dX10_routes_29 : decode cX10_routes 29 = .ok (.iadd, 1) := by decide +kernel
theorem dX10_routes_30 : decode cX10_routes 30 = .ok (.iload_n 2, 1) := by decide +kernel
theorem dX10_routes_31 : decode cX10_routes 31 = .ok (.iastore, 1) := by decide +kernel
theorem dX10_routes_32 : decode cX10_routes 32 = .ok (.aload_n 0, 1) := by decide +kernel
theorem dX10_routes_33 : decode cX10_routes 33 = .ok (.getfield 7, 3) := by decide +kernel
theorem dX10_routes_36 : decode cX10_routes 36 = .ok (.iload 6, 2) := by decide +kernel
theorem dX10_routes_38 : decode cX10_routes 38 = .ok (.iconst 2, 1) := by decide +kernel
theorem dX10_routes_39 : decode cX10_routes 39 = .ok (.iadd, 1) := by decide +kernel
theorem dX10_routes_40 : decode cX10_routes 40 = .ok (.iload_n 3, 1) := by decide +kernel
theorem dX10_routes_41 : decode cX10_routes 41 = .ok (.iastore, 1) := by decide +kernel
theorem dX10_routes_42 : decode cX10_routes 42 = .ok (.aload_n 0, 1) := by decide +kernel
theorem dX10_routes_43 : decode cX10_routes 43 = .ok (.getfield 7, 3) := by decide +kernel
theorem dX10_routes_46 : decode cX10_routes 46 = .ok (.iload 6, 2) := by decide +kernel
theorem dX10_routes_48 : decode cX10_routes 48 = .ok (.iconst 3, 1) := by decide +kernel
theorem dX10_routes_49 : decode cX10_routes 49 = .ok (.iadd, 1) := by decide +kernel
theorem dX10_routes_50 : decode cX10_routes 50 = .ok (.iload 4, 2) := by decide +kernel
theorem dX10_routes_52 : decode cX10_routes 52 = .ok (.iastore, 1) := by decide +kernel
theorem dX10_routes_53 : decode cX10_routes 53 = .ok (.aload_n 0, 1) := by decide +kernel
theorem dX10_routes_54 : decode cX10_routes 54 = .ok (.getfield 7, 3) := by decide +kernel
theorem dX10_routes_57 : decode cX10_routes 57 = .ok (.iload 6, 2) := by decide +kernel
theorem dX10_routes_59 : decode cX10_routes 59 = .ok (.iconst 4, 1) := by decide +kernel
theorem dX10_routes_60 : decode cX10_routes 60 = .ok (.iadd, 1) := by decide +kernel
theorem dX10_routes_61 : decode cX10_routes 61 = .ok (.iload 4, 2) := by decide +kernel
theorem dX10_routes_63 : decode cX10_routes 63 = .ok (.iastore, 1) := by decide +kernel
theorem dX10_routes_64 : decode cX10_routes 64 = .ok (.aload_n 0, 1) := by decide +kernel
theorem dX10_routes_65 : decode cX10_routes 65 = .ok (.getfield 7, 3) := by decide +kernel
theorem dX10_routes_68 : decode cX10_routes 68 = .ok (.iload 6, 2) := by decide +kernel
theorem dX10_routes_70 : decode cX10_routes 70 = .ok (.iconst 5, 1) := by decide +kernel
theorem dX10_routes_71 : decode cX10_routes 71 = .ok (.iadd, 1) := by decide +kernel
theorem dX10_routes_72 : decode cX10_routes 72 = .ok (.iload 4, 2) := by decide +kernel
theorem dX10_routes_74 : decode cX10_routes 74 = .ok (.iastore, 1) := by decide +kernel
theorem dX10_routes_75 : decode cX10_routes 75 = .ok (.aload_n 0, 1) := by decide +kernel
theorem dX10_routes_76 : decode cX10_routes 76 = .ok (.getfield 7, 3) := by decide +kernel
theorem dX10_routes_79 : decode cX10_routes 79 = .ok (.iload 6, 2) := by decide +kernel
theorem dX10_routes_81 : decode cX10_routes 81 = .ok (.bipush 6, 2) := by decide +kernel
theorem dX10_routes_83 : decode cX10_routes 83 = .ok (.iadd, 1) := by decide +kernel
theorem dX10_routes_84 : decode cX10_routes 84 = .ok (.iload 5, 2) := by decide +kernel
theorem dX10_routes_86 : decode cX10_routes 86 = .ok (.iastore, 1) := by decide +kernel
theorem dX10_routes_87 : decode cX10_routes 87 = .ok (.aload_n 0, 1) := by decide +kernel
theorem dX10_routes_88 : decode cX10_routes 88 = .ok (.getfield 7, 3) := by decide +kernel
theorem dX10_routes_91 : decode cX10_routes 91 = .ok (.iload 6, 2) := by decide +kernel
theorem dX10_routes_93 : decode cX10_routes 93 = .ok (.bipush 7, 2) := by decide +kernel
theorem dX10_routes_95 : decode cX10_routes 95 = .ok (.iadd, 1) := by decide +kernel
theorem dX10_routes_96 : decode cX10_routes 96 = .ok (.iconst 0, 1) := by decide +kernel
theorem dX10_routes_97 : decode cX10_routes 97 = .ok (.iastore, 1) := by decide +kernel
theorem dX10_routes_98 : decode cX10_routes 98 = .ok (.aload_n 0, 1) := by decide +kernel
theorem dX10_routes_99 : decode cX10_routes 99 = .ok (.getfield 7, 3) := by decide +kernel
theorem dX10_routes_102 : decode cX10_routes 102 = .ok (.iconst 1, 1) := by decide +kernel
theorem dX10_routes_103 : decode cX10_routes 103 = .ok (.dup2, 1) := by decide +kernel
theorem dX10_routes_104 : decode cX10_routes 104 = .ok (.iaload, 1) := by decide +kernel
theorem dX10_routes_105 : decode cX10_routes 105 = .ok (.iconst 1, 1) := by decide +kernel
theorem dX10_routes_106 : decode cX10_routes 106 = .ok (.iadd, 1) := by decide +kernel
theorem dX10_routes_107 : decode cX10_routes 107 = .ok (.iastore, 1) := by decide +kernel
theorem dX10_routes_108 : decode cX10_routes 108 = .ok (.return_, 1) := by decide +kernel
theorem dX10_addRoute_0 : decode cX10_addRoute 0 = .ok (.aload_n 0, 1) := by decide +kernel
theorem dX10_addRoute_1 : decode cX10_addRoute 1 = .ok (.iload_n 1, 1) := by decide +kernel
theorem dX10_addRoute_2 : decode cX10_addRoute 2 = .ok (.iload_n 2, 1) := by decide +kernel
theorem dX10_addRoute_3 : decode cX10_addRoute 3 = .ok (.iload_n 3, 1) := by decide +kernel
theorem dX10_addRoute_4 : decode cX10_addRoute 4 = .ok (.iload 4, 2) := by decide +kernel
theorem dX10_addRoute_6 : decode cX10_addRoute 6 = .ok (.iload 5, 2) := by decide +kernel
theorem dX10_addRoute_8 : decode cX10_addRoute 8 = .ok (.invokevirtual 85, 3) := by decide +kernel
theorem dX10_addRoute_11 : decode cX10_addRoute 11 = .ok (.ifCond .ne 5, 3) := by decide +kernel
theorem dX10_addRoute_14 : decode cX10_addRoute 14 = .ok (.iconst (-1), 1) := by decide +kernel
theorem dX10_addRoute_15 : decode cX10_addRoute 15 = .ok (.ireturn, 1) := by decide +kernel
theorem dX10_addRoute_16 : decode cX10_addRoute 16 = .ok (.aload_n 0, 1) := by decide +kernel
theorem dX10_addRoute_17 : decode cX10_addRoute 17 = .ok (.getfield 7, 3) := by decide +kernel
theorem dX10_addRoute_20 : decode cX10_addRoute 20 = .ok (.iconst 1, 1) := by decide +kernel
theorem dX10_addRoute_21 : decode cX10_addRoute 21 = .ok (.iaload, 1) := by decide +kernel
theorem dX10_addRoute_22 : decode cX10_addRoute 22 = .ok (.bipush 40, 2) := by decide +kernel
theorem dX10_addRoute_24 : decode cX10_addRoute 24 = .ok (.if_icmp .ne 6, 3) := by decide +kernel
theorem dX10_addRoute_27 : decode cX10_addRoute 27 = .ok (.bipush (-3), 2) := by decide +kernel
theorem dX10_addRoute_29 : decode cX10_addRoute 29 = .ok (.ireturn, 1) := by decide +kernel
theorem dX10_addRoute_30 : decode cX10_addRoute 30 = .ok (.aload_n 0, 1) := by decide +kernel
theorem dX10_addRoute_31 : decode cX10_addRoute 31 = .ok (.aload_n 0, 1) := by decide +kernel
theorem dX10_addRoute_32 : decode cX10_addRoute 32 = .ok (.getfield 7, 3) := by decide +kernel
theorem dX10_addRoute_35 : decode cX10_addRoute 35 = .ok (.invokevirtual 62, 3) := by decide +kernel
theorem dX10_addRoute_38 : decode cX10_addRoute 38 = .ok (.aload_n 0, 1) := by decide +kernel
theorem dX10_addRoute_39 : decode cX10_addRoute 39 = .ok (.iload_n 1, 1) := by decide +kernel
theorem dX10_addRoute_40 : decode cX10_addRoute 40 = .ok (.iload_n 2, 1) := by decide +kernel
theorem dX10_addRoute_41 : decode cX10_addRoute 41 = .ok (.iload_n 3, 1) := by decide +kernel
theorem dX10_addRoute_42 : decode cX10_addRoute 42 = .ok (.iload 4, 2) := by decide +kernel
theorem dX10_addRoute_44 : decode cX10_addRoute 44 = .ok (.iload 5, 2) := by decide +kernel
theorem dX10_addRoute_46 : decode cX10_addRoute 46 = .ok (.invokevirtual 89, 3) := by decide +kernel
theorem dX10_addRoute_49 : decode cX10_addRoute 49 = .ok (.aload_n 0, 1) := by decide +kernel
theorem dX10_addRoute_50 : decode cX10_addRoute 50 = .ok (.getfield 7, 3) := by decide +kernel
theorem dX10_addRoute_53 : decode cX10_addRoute 53 = .ok (.iconst 1, 1) := by decide +kernel
theorem dX10_addRoute_54 : decode cX10_addRoute 54 = .ok (.iaload, 1) := by decide +kernel
theorem dX10_addRoute_55 : decode cX10_addRoute 55 = .ok (.iconst 1, 1) := by decide +kernel
theorem dX10_addRoute_56 : decode cX10_addRoute 56 = .ok (.isub, 1) := by decide +kernel
theorem dX10_addRoute_57 : decode cX10_addRoute 57 = .ok (.ireturn, 1) := by decide +kernel
theorem dX10_setCost_0 : decode cX10_setCost 0 = .ok (.iload_n 1, 1) := by decide +kernel
theorem dX10_setCost_1 : decode cX10_setCost 1 = .ok (.iconst 0, 1) := by decide +kernel
theorem dX10_setCost_2 : decode cX10_setCost 2 = .ok (.aload_n 0, 1) := by decide +kernel
theorem dX10_setCost_3 : decode cX10_setCost 3 = .ok (.getfield 7, 3) := by decide +kernel
theorem dX10_setCost_6 : decode cX10_setCost 6 = .ok (.iconst 1, 1) := by decide +kernel
theorem dX10_setCost_7 : decode cX10_setCost 7 = .ok (.iaload, 1) := by decide +kernel
theorem dX10_setCost_8 : decode cX10_setCost 8 = .ok (.iconst 1, 1) := by decide +kernel
theorem dX10_setCost_9 : decode cX10_setCost 9 = .ok (.isub, 1) := by decide +kernel
theorem dX10_setCost_10 : decode cX10_setCost 10 = .ok (.invokestatic 66, 3) := by decide +kernel
theorem dX10_setCost_13 : decode cX10_setCost 13 = .ok (.ifCond .eq 42, 3) := by decide +kernel
theorem dX10_setCost_16 : decode cX10_setCost 16 = .ok (.iload_n 2, 1) := by decide +kernel
theorem dX10_setCost_17 : decode cX10_setCost 17 = .ok (.iconst 0, 1) := by decide +kernel
theorem dX10_setCost_18 : decode cX10_setCost 18 = .ok (.iconst 2, 1) := by decide +kernel
theorem dX10_setCost_19 : decode cX10_setCost 19 = .ok (.invokestatic 66, 3) := by decide +kernel
theorem dX10_setCost_22 : decode cX10_setCost 22 = .ok (.ifCond .eq 33, 3) := by decide +kernel
theorem dX10_setCost_25 : decode cX10_setCost 25 = .ok (.iload_n 3, 1) := by decide +kernel
theorem dX10_setCost_26 : decode cX10_setCost 26 = .ok (.iconst 0, 1) := by decide +kernel
theorem dX10_setCost_27 : decode cX10_setCost 27 = .ok (.sipush 1000, 3) := by decide +kernel
theorem dX10_setCost_30 : decode cX10_setCost 30 = .ok (.invokestatic 66, 3) := by decide +kernel
theorem dX10_setCost_33 : decode cX10_setCost 33 = .ok (.ifCond .eq 22, 3) := by decide +kernel
theorem dX10_setCost_36 : decode cX10_setCost 36 = .ok (.aload_n 0, 1) := by decide +kernel
theorem dX10_setCost_37 : decode cX10_setCost 37 = .ok (.bipush 30, 2) := by decide +kernel
theorem dX10_setCost_39 : decode cX10_setCost 39 = .ok (.bipush 8, 2) := by decide +kernel
theorem dX10_setCost_41 : decode cX10_setCost 41 = .ok (.iload_n 1, 1) := by decide +kernel
theorem dX10_setCost_42 : decode cX10_setCost 42 = .ok (.imul, 1) := by decide +kernel
theorem dX10_setCost_43 : decode cX10_setCost 43 = .ok (.iadd, 1) := by decide +kernel
theorem dX10_setCost_44 : decode cX10_setCost 44 = .ok (.iconst 3, 1) := by decide +kernel
theorem dX10_setCost_45 : decode cX10_setCost 45 = .ok (.iadd, 1) := by decide +kernel
theorem dX10_setCost_46 : decode cX10_setCost 46 = .ok (.iload_n 2, 1) := by decide +kernel
theorem dX10_setCost_47 : decode cX10_setCost 47 = .ok (.iadd, 1) := by decide +kernel
theorem dX10_setCost_48 : decode cX10_setCost 48 = .ok (.iload_n 3, 1) := by decide +kernel
theorem dX10_setCost_49 : decode cX10_setCost 49 = .ok (.invokevirtual 82, 3) := by decide +kernel
theorem dX10_setCost_52 : decode cX10_setCost 52 = .ok (.goto 4, 3) := by decide +kernel
theorem dX10_setCost_55 : decode cX10_setCost 55 = .ok (.iconst (-1), 1) := by decide +kernel
theorem dX10_setCost_56 : decode cX10_setCost 56 = .ok (.ireturn, 1) := by decide +kernel
theorem dX10_portOf_0 : decode cX10_portOf 0 = .ok (.iconst 0, 1) := by decide +kernel
theorem dX10_portOf_1 : decode cX10_portOf 1 = .ok (.istore_n 2, 1) := by decide +kernel
theorem dX10_portOf_2 : decode cX10_portOf 2 = .ok (.iload_n 2, 1) := by decide +kernel
theorem dX10_portOf_3 : decode cX10_portOf 3 = .ok (.aload_n 0, 1) := by decide +kernel
theorem dX10_portOf_4 : decode cX10_portOf 4 = .ok (.getfield 7, 3) := by decide +kernel
theorem dX10_portOf_7 : decode cX10_portOf 7 = .ok (.iconst 2, 1) := by decide +kernel
theorem dX10_portOf_8 : decode cX10_portOf 8 = .ok (.iaload, 1) := by decide +kernel
theorem dX10_portOf_9 : decode cX10_portOf 9 = .ok (.if_icmp .ge 27, 3) := by decide +kernel
theorem dX10_portOf_12 : decode cX10_portOf 12 = .ok (.aload_n 0, 1) := by decide +kernel
theorem dX10_portOf_13 : decode cX10_portOf 13 = .ok (.getfield 7, 3) := by decide +kernel
theorem dX10_portOf_16 : decode cX10_portOf 16 = .ok (.sipush 350, 3) := by decide +kernel
theorem dX10_portOf_19 : decode cX10_portOf 19 = .ok (.iconst 2, 1) := by decide +kernel
theorem dX10_portOf_20 : decode cX10_portOf 20 = .ok (.iload_n 2, 1) := by decide +kernel
theorem dX10_portOf_21 : decode cX10_portOf 21 = .ok (.imul, 1) := by decide +kernel
theorem dX10_portOf_22 : decode cX10_portOf 22 = .ok (.iadd, 1) := by decide +kernel
theorem dX10_portOf_23 : decode cX10_portOf 23 = .ok (.iaload, 1) := by decide +kernel
theorem dX10_portOf_24 : decode cX10_portOf 24 = .ok (.iload_n 1, 1) := by decide +kernel
theorem dX10_portOf_25 : decode cX10_portOf 25 = .ok (.if_icmp .ne 5, 3) := by decide +kernel
theorem dX10_portOf_28 : decode cX10_portOf 28 = .ok (.iload_n 2, 1) := by decide +kernel
theorem dX10_portOf_29 : decode cX10_portOf 29 = .ok (.ireturn, 1) := by decide +kernel
theorem dX10_portOf_30 : decode cX10_portOf 30 = .ok (.iinc 2 1, 3) := by decide +kernel
theorem dX10_portOf_33 : decode cX10_portOf 33 = .ok (.goto (-31), 3) := by decide +kernel
theorem dX10_portOf_36 : decode cX10_portOf 36 = .ok (.iconst (-1), 1) := by decide +kernel
theorem dX10_portOf_37 : decode cX10_portOf 37 = .ok (.ireturn, 1) := by decide +kernel
theorem dX10_ports_0 : decode cX10_ports 0 = .ok (.aload_n 0, 1) := by decide +kernel
theorem dX10_ports_1 : decode cX10_ports 1 = .ok (.iload_n 1, 1) := by decide +kernel
theorem dX10_ports_2 : decode cX10_ports 2 = .ok (.invokevirtual 93, 3) := by decide +kernel
theorem dX10_ports_5 : decode cX10_ports 5 = .ok (.istore_n 3, 1) := by decide +kernel
theorem dX10_ports_6 : decode cX10_ports 6 = .ok (.iload_n 3, 1) := by decide +kernel
theorem dX10_ports_7 : decode cX10_ports 7 = .ok (.ifCond .ge 8, 3) := by decide +kernel
theorem dX10_ports_10 : decode cX10_ports 10 = .ok (.bipush (-9), 2) := by decide +kernel
theorem dX10_ports_12 : decode cX10_ports 12 = .ok (.goto 17, 3) := by decide +kernel
theorem dX10_ports_15 : decode cX10_ports 15 = .ok (.aload_n 0, 1) := by decide +kernel
theorem dX10_ports_16 : decode cX10_ports 16 = .ok (.getfield 7, 3) := by decide +kernel
theorem dX10_ports_19 : decode cX10_ports 19 = .ok (.sipush 350, 3) := by decide +kernel
theorem dX10_ports_22 : decode cX10_ports 22 = .ok (.iconst 2, 1) := by decide +kernel
theorem dX10_ports_23 : decode cX10_ports 23 = .ok (.iload_n 3, 1) := by decide +kernel
theorem dX10_ports_24 : decode cX10_ports 24 = .ok (.imul, 1) := by decide +kernel
theorem dX10_ports_25 : decode cX10_ports 25 = .ok (.iadd, 1) := by decide +kernel
theorem dX10_ports_26 : decode cX10_ports 26 = .ok (.iconst 1, 1) := by decide +kernel
theorem dX10_ports_27 : decode cX10_ports 27 = .ok (.iadd, 1) := by decide +kernel
theorem dX10_ports_28 : decode cX10_ports 28 = .ok (.iaload, 1) := by decide +kernel
theorem dX10_ports_29 : decode cX10_ports 29 = .ok (.istore 4, 2) := by decide +kernel
theorem dX10_ports_31 : decode cX10_ports 31 = .ok (.iload_n 3, 1) := by decide +kernel
theorem dX10_ports_32 : decode cX10_ports 32 = .ok (.ifCond .ge 33, 3) := by decide +kernel
theorem dX10_ports_35 : decode cX10_ports 35 = .ok (.aload_n 0, 1) := by decide +kernel
theorem dX10_ports_36 : decode cX10_ports 36 = .ok (.getfield 7, 3) := by decide +kernel
theorem dX10_ports_39 : decode cX10_ports 39 = .ok (.iconst 2, 1) := by decide +kernel
theorem dX10_ports_40 : decode cX10_ports 40 = .ok (.iaload, 1) := by decide +kernel
theorem dX10_ports_41 : decode cX10_ports 41 = .ok (.istore_n 3, 1) := by decide +kernel
theorem dX10_ports_42 : decode cX10_ports 42 = .ok (.aload_n 0, 1) := by decide +kernel
theorem dX10_ports_43 : decode cX10_ports 43 = .ok (.getfield 7, 3) := by decide +kernel
theorem dX10_ports_46 : decode cX10_ports 46 = .ok (.sipush 350, 3) := by decide +kernel
theorem dX10_ports_49 : decode cX10_ports 49 = .ok (.iconst 2, 1) := by decide +kernel
theorem dX10_ports_50 : decode cX10_ports 50 = .ok (.iload_n 3, 1) := by decide +kernel
theorem dX10_ports_51 : decode cX10_ports 51 = .ok (.imul, 1) := by decide +kernel
theorem dX10_ports_52 : decode cX10_ports 52 = .ok (.iadd, 1) := by decide +kernel
theorem dX10_ports_53 : decode cX10_ports 53 = .ok (.iload_n 1, 1) := by decide +kernel
theorem dX10_ports_54 : decode cX10_ports 54 = .ok (.iastore, 1) := by decide +kernel
theorem dX10_ports_55 : decode cX10_ports 55 = .ok (.aload_n 0, 1) := by decide +kernel
theorem dX10_ports_56 : decode cX10_ports 56 = .ok (.getfield 7, 3) := by decide +kernel
theorem dX10_ports_59 : decode cX10_ports 59 = .ok (.iconst 2, 1) := by decide +kernel
theorem dX10_ports_60 : decode cX10_ports 60 = .ok (.dup2, 1) := by decide +kernel
theorem dX10_ports_61 : decode cX10_ports 61 = .ok (.iaload, 1) := by decide +kernel
theorem dX10_ports_62 : decode cX10_ports 62 = .ok (.iconst 1, 1) := by decide +kernel
theorem dX10_ports_63 : decode cX10_ports 63 = .ok (.iadd, 1) := by decide +kernel
theorem dX10_ports_64 : decode cX10_ports 64 = .ok (.iastore, 1) := by decide +kernel
theorem dX10_ports_65 : decode cX10_ports 65 = .ok (.aload_n 0, 1) := by decide +kernel
theorem dX10_ports_66 : decode cX10_ports 66 = .ok (.getfield 7, 3) := by decide +kernel
theorem dX10_ports_69 : decode cX10_ports 69 = .ok (.sipush 350, 3) := by decide +kernel
theorem dX10_ports_72 : decode cX10_ports 72 = .ok (.iconst 2, 1) := by decide +kernel
theorem dX10_ports_73 : decode cX10_ports 73 = .ok (.iload_n 3, 1) := by decide +kernel
theorem dX10_ports_74 : decode cX10_ports 74 = .ok (.imul, 1) := by decide +kernel
theorem dX10_ports_75 : decode cX10_ports 75 = .ok (.iadd, 1) := by decide +kernel
theorem dX10_ports_76 : decode cX10_ports 76 = .ok (.iconst 1, 1) := by decide +kernel
theorem dX10_ports_77 : decode cX10_ports 77 = .ok (.iadd, 1) := by decide +kernel
theorem dX10_ports_78 : decode cX10_ports 78 = .ok (.iload_n 2, 1) := by decide +kernel
theorem dX10_ports_79 : decode cX10_ports 79 = .ok (.iastore, 1) := by decide +kernel
theorem dX10_ports_80 : decode cX10_ports 80 = .ok (.iload 4, 2) := by decide +kernel
theorem dX10_ports_82 : decode cX10_ports 82 = .ok (.ireturn, 1) := by decide +kernel
theorem dX10_port_0 : decode cX10_port 0 = .ok (.aload_n 0, 1) := by decide +kernel
theorem dX10_port_1 : decode cX10_port 1 = .ok (.iload_n 2, 1) := by decide +kernel
theorem dX10_port_2 : decode cX10_port 2 = .ok (.invokevirtual 79, 3) := by decide +kernel
theorem dX10_port_5 : decode cX10_port 5 = .ok (.ifCond .eq 10, 3) := by decide +kernel
theorem dX10_port_8 : decode cX10_port 8 = .ok (.iload_n 1, 1) := by decide +kernel
theorem dX10_port_9 : decode cX10_port 9 = .ok (.invokestatic 97, 3) := by decide +kernel
theorem dX10_port_12 : decode cX10_port 12 = .ok (.ifCond .ne 5, 3) := by decide +kernel
theorem dX10_port_15 : decode cX10_port 15 = .ok (.iconst (-1), 1) := by decide +kernel
theorem dX10_port_16 : decode cX10_port 16 = .ok (.ireturn, 1) := by decide +kernel
theorem dX10_port_17 : decode cX10_port 17 = .ok (.aload_n 0, 1) := by decide +kernel
theorem dX10_port_18 : decode cX10_port 18 = .ok (.getfield 7, 3) := by decide +kernel
theorem dX10_port_21 : decode cX10_port 21 = .ok (.iconst 2, 1) := by decide +kernel
theorem dX10_port_22 : decode cX10_port 22 = .ok (.iaload, 1) := by decide +kernel
theorem dX10_port_23 : decode cX10_port 23 = .ok (.bipush 30, 2) := by decide +kernel
theorem dX10_port_25 : decode cX10_port 25 = .ok (.if_icmp .ne 14, 3) := by decide +kernel
theorem dX10_port_28 : decode cX10_port 28 = .ok (.aload_n 0, 1) := by decide +kernel
theorem dX10_port_29 : decode cX10_port 29 = .ok (.iload_n 1, 1) := by decide +kernel
theorem dX10_port_30 : decode cX10_port 30 = .ok (.invokevirtual 93, 3) := by decide +kernel
theorem dX10_port_33 : decode cX10_port 33 = .ok (.ifCond .ge 6, 3) := by decide +kernel
theorem dX10_port_36 : decode cX10_port 36 = .ok (.bipush (-3), 2) := by decide +kernel
theorem dX10_port_38 : decode cX10_port 38 = .ok (.ireturn, 1) := by decide +kernel
theorem dX10_port_39 : decode cX10_port 39 = .ok (.aload_n 0, 1) := by decide +kernel
theorem dX10_port_40 : decode cX10_port 40 = .ok (.aload_n 0, 1) := by decide +kernel
theorem dX10_port_41 : decode cX10_port 41 = .ok (.getfield 7, 3) := by decide +kernel
theorem dX10_port_44 : decode cX10_port 44 = .ok (.invokevirtual 62, 3) := by decide +kernel
theorem dX10_port_47 : decode cX10_port 47 = .ok (.aload_n 0, 1) := by decide +kernel
theorem dX10_port_48 : decode cX10_port 48 = .ok (.iload_n 1, 1) := by decide +kernel
theorem dX10_port_49 : decode cX10_port 49 = .ok (.iload_n 2, 1) := by decide +kernel
theorem dX10_port_50 : decode cX10_port 50 = .ok (.invokevirtual 100, 3) := by decide +kernel
theorem dX10_port_53 : decode cX10_port 53 = .ok (.ireturn, 1) := by decide +kernel
theorem dX10_unport_0 : decode cX10_unport 0 = .ok (.iload_n 1, 1) := by decide +kernel
theorem dX10_unport_1 : decode cX10_unport 1 = .ok (.invokestatic 97, 3) := by decide +kernel
theorem dX10_unport_4 : decode cX10_unport 4 = .ok (.ifCond .ne 5, 3) := by decide +kernel
theorem dX10_unport_7 : decode cX10_unport 7 = .ok (.iconst (-1), 1) := by decide +kernel
theorem dX10_unport_8 : decode cX10_unport 8 = .ok (.ireturn, 1) := by decide +kernel
theorem dX10_unport_9 : decode cX10_unport 9 = .ok (.aload_n 0, 1) := by decide +kernel
theorem dX10_unport_10 : decode cX10_unport 10 = .ok (.iload_n 1, 1) := by decide +kernel
theorem dX10_unport_11 : decode cX10_unport 11 = .ok (.invokevirtual 93, 3) := by decide +kernel
theorem dX10_unport_14 : decode cX10_unport 14 = .ok (.istore_n 2, 1) := by decide +kernel
theorem dX10_unport_15 : decode cX10_unport 15 = .ok (.iload_n 2, 1) := by decide +kernel
theorem dX10_unport_16 : decode cX10_unport 16 = .ok (.ifCond .ge 6, 3) := by decide +kernel
theorem dX10_unport_19 : decode cX10_unport 19 = .ok (.bipush (-9), 2) := by decide +kernel
theorem dX10_unport_21 : decode cX10_unport 21 = .ok (.ireturn, 1) := by decide +kernel
theorem dX10_unport_22 : decode cX10_unport 22 = .ok (.aload_n 0, 1) := by decide +kernel
theorem dX10_unport_23 : decode cX10_unport 23 = .ok (.aload_n 0, 1) := by decide +kernel
theorem dX10_unport_24 : decode cX10_unport 24 = .ok (.getfield 7, 3) := by decide +kernel
theorem dX10_unport_27 : decode cX10_unport 27 = .ok (.invokevirtual 62, 3) := by decide +kernel
theorem dX10_unport_30 : decode cX10_unport 30 = .ok (.aload_n 0, 1) := by decide +kernel
theorem dX10_unport_31 : decode cX10_unport 31 = .ok (.getfield 7, 3) := by decide +kernel
theorem dX10_unport_34 : decode cX10_unport 34 = .ok (.sipush 350, 3) := by decide +kernel
theorem dX10_unport_37 : decode cX10_unport 37 = .ok (.iconst 2, 1) := by decide +kernel
theorem dX10_unport_38 : decode cX10_unport 38 = .ok (.iload_n 2, 1) := by decide +kernel
theorem dX10_unport_39 : decode cX10_unport 39 = .ok (.imul, 1) := by decide +kernel
theorem dX10_unport_40 : decode cX10_unport 40 = .ok (.iadd, 1) := by decide +kernel
theorem dX10_unport_41 : decode cX10_unport 41 = .ok (.iconst 1, 1) := by decide +kernel
theorem dX10_unport_42 : decode cX10_unport 42 = .ok (.iadd, 1) := by decide +kernel
theorem dX10_unport_43 : decode cX10_unport 43 = .ok (.iaload, 1) := by decide +kernel
theorem dX10_unport_44 : decode cX10_unport 44 = .ok (.istore_n 3, 1) := by decide +kernel
theorem dX10_unport_45 : decode cX10_unport 45 = .ok (.aload_n 0, 1) := by decide +kernel
theorem dX10_unport_46 : decode cX10_unport 46 = .ok (.getfield 7, 3) := by decide +kernel
theorem dX10_unport_49 : decode cX10_unport 49 = .ok (.iconst 2, 1) := by decide +kernel
theorem dX10_unport_50 : decode cX10_unport 50 = .ok (.dup2, 1) := by decide +kernel
theorem dX10_unport_51 : decode cX10_unport 51 = .ok (.iaload, 1) := by decide +kernel
theorem dX10_unport_52 : decode cX10_unport 52 = .ok (.iconst 1, 1) := by decide +kernel
theorem dX10_unport_53 : decode cX10_unport 53 = .ok (.isub, 1) := by decide +kernel
theorem dX10_unport_54 : decode cX10_unport 54 = .ok (.iastore, 1) := by decide +kernel
theorem dX10_unport_55 : decode cX10_unport 55 = .ok (.aload_n 0, 1) := by decide +kernel
theorem dX10_unport_56 : decode cX10_unport 56 = .ok (.getfield 7, 3) := by decide +kernel
theorem dX10_unport_59 : decode cX10_unport 59 = .ok (.sipush 350, 3) := by decide +kernel
theorem dX10_unport_62 : decode cX10_unport 62 = .ok (.iconst 2, 1) := by decide +kernel
theorem dX10_unport_63 : decode cX10_unport 63 = .ok (.iload_n 2, 1) := by decide +kernel
theorem dX10_unport_64 : decode cX10_unport 64 = .ok (.imul, 1) := by decide +kernel
theorem dX10_unport_65 : decode cX10_unport 65 = .ok (.iadd, 1) := by decide +kernel
theorem dX10_unport_66 : decode cX10_unport 66 = .ok (.aload_n 0, 1) := by decide +kernel
theorem dX10_unport_67 : decode cX10_unport 67 = .ok (.getfield 7, 3) := by decide +kernel
theorem dX10_unport_70 : decode cX10_unport 70 = .ok (.sipush 350, 3) := by decide +kernel
theorem dX10_unport_73 : decode cX10_unport 73 = .ok (.iconst 2, 1) := by decide +kernel
theorem dX10_unport_74 : decode cX10_unport 74 = .ok (.aload_n 0, 1) := by decide +kernel
theorem dX10_unport_75 : decode cX10_unport 75 = .ok (.getfield 7, 3) := by decide +kernel
theorem dX10_unport_78 : decode cX10_unport 78 = .ok (.iconst 2, 1) := by decide +kernel
theorem dX10_unport_79 : decode cX10_unport 79 = .ok (.iaload, 1) := by decide +kernel
theorem dX10_unport_80 : decode cX10_unport 80 = .ok (.imul, 1) := by decide +kernel
theorem dX10_unport_81 : decode cX10_unport 81 = .ok (.iadd, 1) := by decide +kernel
theorem dX10_unport_82 : decode cX10_unport 82 = .ok (.iaload, 1) := by decide +kernel
theorem dX10_unport_83 : decode cX10_unport 83 = .ok (.iastore, 1) := by decide +kernel
theorem dX10_unport_84 : decode cX10_unport 84 = .ok (.aload_n 0, 1) := by decide +kernel
theorem dX10_unport_85 : decode cX10_unport 85 = .ok (.getfield 7, 3) := by decide +kernel
theorem dX10_unport_88 : decode cX10_unport 88 = .ok (.sipush 350, 3) := by decide +kernel
theorem dX10_unport_91 : decode cX10_unport 91 = .ok (.iconst 2, 1) := by decide +kernel
theorem dX10_unport_92 : decode cX10_unport 92 = .ok (.iload_n 2, 1) := by decide +kernel
theorem dX10_unport_93 : decode cX10_unport 93 = .ok (.imul, 1) := by decide +kernel
theorem dX10_unport_94 : decode cX10_unport 94 = .ok (.iadd, 1) := by decide +kernel
theorem dX10_unport_95 : decode cX10_unport 95 = .ok (.iconst 1, 1) := by decide +kernel
theorem dX10_unport_96 : decode cX10_unport 96 = .ok (.iadd, 1) := by decide +kernel
theorem dX10_unport_97 : decode cX10_unport 97 = .ok (.aload_n 0, 1) := by decide +kernel
theorem dX10_unport_98 : decode cX10_unport 98 = .ok (.getfield 7, 3) := by decide +kernel
theorem dX10_unport_101 : decode cX10_unport 101 = .ok (.sipush 350, 3) := by decide +kernel
theorem dX10_unport_104 : decode cX10_unport 104 = .ok (.iconst 2, 1) := by decide +kernel
theorem dX10_unport_105 : decode cX10_unport 105 = .ok (.aload_n 0, 1) := by decide +kernel
theorem dX10_unport_106 : decode cX10_unport 106 = .ok (.getfield 7, 3) := by decide +kernel
theorem dX10_unport_109 : decode cX10_unport 109 = .ok (.iconst 2, 1) := by decide +kernel
theorem dX10_unport_110 : decode cX10_unport 110 = .ok (.iaload, 1) := by decide +kernel
theorem dX10_unport_111 : decode cX10_unport 111 = .ok (.imul, 1) := by decide +kernel
theorem dX10_unport_112 : decode cX10_unport 112 = .ok (.iadd, 1) := by decide +kernel
theorem dX10_unport_113 : decode cX10_unport 113 = .ok (.iconst 1, 1) := by decide +kernel
theorem dX10_unport_114 : decode cX10_unport 114 = .ok (.iadd, 1) := by decide +kernel
theorem dX10_unport_115 : decode cX10_unport 115 = .ok (.iaload, 1) := by decide +kernel
theorem dX10_unport_116 : decode cX10_unport 116 = .ok (.iastore, 1) := by decide +kernel
theorem dX10_unport_117 : decode cX10_unport 117 = .ok (.iload_n 3, 1) := by decide +kernel
theorem dX10_unport_118 : decode cX10_unport 118 = .ok (.ireturn, 1) := by decide +kernel
theorem dX10_lengthOf_0 : decode cX10_lengthOf 0 = .ok (.iconst 0, 1) := by decide +kernel
theorem dX10_lengthOf_1 : decode cX10_lengthOf 1 = .ok (.istore_n 1, 1) := by decide +kernel
theorem dX10_lengthOf_2 : decode cX10_lengthOf 2 = .ok (.iload_n 0, 1) := by decide +kernel
theorem dX10_lengthOf_3 : decode cX10_lengthOf 3 = .ok (.istore_n 2, 1) := by decide +kernel
theorem dX10_lengthOf_4 : decode cX10_lengthOf 4 = .ok (.iload_n 2, 1) := by decide +kernel
theorem dX10_lengthOf_5 : decode cX10_lengthOf 5 = .ok (.ifCond .le 14, 3) := by decide +kernel
theorem dX10_lengthOf_8 : decode cX10_lengthOf 8 = .ok (.iinc 1 1, 3) := by decide +kernel
theorem dX10_lengthOf_11 : decode cX10_lengthOf 11 = .ok (.iload_n 2, 1) := by decide +kernel
theorem dX10_lengthOf_12 : decode cX10_lengthOf 12 = .ok (.bipush 10, 2) := by decide +kernel
theorem dX10_lengthOf_14 : decode cX10_lengthOf 14 = .ok (.idiv, 1) := by decide +kernel
theorem dX10_lengthOf_15 : decode cX10_lengthOf 15 = .ok (.istore_n 2, 1) := by decide +kernel
theorem dX10_lengthOf_16 : decode cX10_lengthOf 16 = .ok (.goto (-12), 3) := by decide +kernel
theorem dX10_lengthOf_19 : decode cX10_lengthOf 19 = .ok (.iload_n 1, 1) := by decide +kernel
theorem dX10_lengthOf_20 : decode cX10_lengthOf 20 = .ok (.ireturn, 1) := by decide +kernel
theorem dX10_spells_0 : decode cX10_spells 0 = .ok (.iload_n 1, 1) := by decide +kernel
theorem dX10_spells_1 : decode cX10_spells 1 = .ok (.invokestatic 103, 3) := by decide +kernel
theorem dX10_spells_4 : decode cX10_spells 4 = .ok (.istore_n 2, 1) := by decide +kernel
theorem dX10_spells_5 : decode cX10_spells 5 = .ok (.iload_n 1, 1) := by decide +kernel
theorem dX10_spells_6 : decode cX10_spells 6 = .ok (.istore_n 3, 1) := by decide +kernel
theorem dX10_spells_7 : decode cX10_spells 7 = .ok (.iload_n 2, 1) := by decide +kernel
theorem dX10_spells_8 : decode cX10_spells 8 = .ok (.iconst 1, 1) := by decide +kernel
theorem dX10_spells_9 : decode cX10_spells 9 = .ok (.isub, 1) := by decide +kernel
theorem dX10_spells_10 : decode cX10_spells 10 = .ok (.istore 4, 2) := by decide +kernel
theorem dX10_spells_12 : decode cX10_spells 12 = .ok (.iload 4, 2) := by decide +kernel
theorem dX10_spells_14 : decode cX10_spells 14 = .ok (.ifCond .lt 30, 3) := by decide +kernel
theorem dX10_spells_17 : decode cX10_spells 17 = .ok (.aload_n 0, 1) := by decide +kernel
theorem dX10_spells_18 : decode cX10_spells 18 = .ok (.getfield 19, 3) := by decide +kernel
theorem dX10_spells_21 : decode cX10_spells 21 = .ok (.aload_n 0, 1) := by decide +kernel
theorem dX10_spells_22 : decode cX10_spells 22 = .ok (.getfield 106, 3) := by decide +kernel
theorem dX10_spells_25 : decode cX10_spells 25 = .ok (.iload 4, 2) := by decide +kernel
theorem dX10_spells_27 : decode cX10_spells 27 = .ok (.iadd, 1) := by decide +kernel
theorem dX10_spells_28 : decode cX10_spells 28 = .ok (.iload_n 3, 1) := by decide +kernel
theorem dX10_spells_29 : decode cX10_spells 29 = .ok (.bipush 10, 2) := by decide +kernel
theorem dX10_spells_31 : decode cX10_spells 31 = .ok (.irem, 1) := by decide +kernel
theorem dX10_spells_32 : decode cX10_spells 32 = .ok (.iastore, 1) := by decide +kernel
theorem dX10_spells_33 : decode cX10_spells 33 = .ok (.iload_n 3, 1) := by decide +kernel
theorem dX10_spells_34 : decode cX10_spells 34 = .ok (.bipush 10, 2) := by decide +kernel
theorem dX10_spells_36 : decode cX10_spells 36 = .ok (.idiv, 1) := by decide +kernel
theorem dX10_spells_37 : decode cX10_spells 37 = .ok (.istore_n 3, 1) := by decide +kernel
theorem dX10_spells_38 : decode cX10_spells 38 = .ok (.iinc 4 (-1), 3) := by decide +kernel
theorem dX10_spells_41 : decode cX10_spells 41 = .ok (.goto (-29), 3) := by decide +kernel
theorem dX10_spells_44 : decode cX10_spells 44 = .ok (.aload_n 0, 1) := by decide +kernel
theorem dX10_spells_45 : decode cX10_spells 45 = .ok (.dup, 1) := by decide +kernel
theorem dX10_spells_46 : decode cX10_spells 46 = .ok (.getfield 106, 3) := by decide +kernel
theorem dX10_spells_49 : decode cX10_spells 49 = .ok (.iload_n 2, 1) := by decide +kernel
theorem dX10_spells_50 : decode cX10_spells 50 = .ok (.iadd, 1) := by decide +kernel
theorem dX10_spells_51 : decode cX10_spells 51 = .ok (.putfield 106, 3) := by decide +kernel
theorem dX10_spells_54 : decode cX10_spells 54 = .ok (.return_, 1) := by decide +kernel
theorem dX10_dials_0 : decode cX10_dials 0 = .ok (.aload_n 0, 1) := by decide +kernel
theorem dX10_dials_1 : decode cX10_dials 1 = .ok (.iconst 0, 1) := by decide +kernel
theorem dX10_dials_2 : decode cX10_dials 2 = .ok (.putfield 106, 3) := by decide +kernel
theorem dX10_dials_5 : decode cX10_dials 5 = .ok (.iload_n 2, 1) := by decide +kernel
theorem dX10_dials_6 : decode cX10_dials 6 = .ok (.ifCond .lt 30, 3) := by decide +kernel
theorem dX10_dials_9 : decode cX10_dials 9 = .ok (.aload_n 0, 1) := by decide +kernel
theorem dX10_dials_10 : decode cX10_dials 10 = .ok (.sipush 990, 3) := by decide +kernel
theorem dX10_dials_13 : decode cX10_dials 13 = .ok (.invokevirtual 109, 3) := by decide +kernel
theorem dX10_dials_16 : decode cX10_dials 16 = .ok (.aload_n 0, 1) := by decide +kernel
theorem dX10_dials_17 : decode cX10_dials 17 = .ok (.getfield 19, 3) := by decide +kernel
theorem dX10_dials_20 : decode cX10_dials 20 = .ok (.aload_n 0, 1) := by decide +kernel
theorem dX10_dials_21 : decode cX10_dials 21 = .ok (.getfield 106, 3) := by decide +kernel
theorem dX10_dials_24 : decode cX10_dials 24 = .ok (.iload_n 2, 1) := by decide +kernel
theorem dX10_dials_25 : decode cX10_dials 25 = .ok (.iastore, 1) := by decide +kernel
theorem dX10_dials_26 : decode cX10_dials 26 = .ok (.aload_n 0, 1) := by decide +kernel
theorem dX10_dials_27 : decode cX10_dials 27 = .ok (.dup, 1) := by decide +kernel
theorem dX10_dials_28 : decode cX10_dials 28 = .ok (.getfield 106, 3) := by decide +kernel
theorem dX10_dials_31 : decode cX10_dials 31 = .ok (.iconst 1, 1) := by decide +kernel
theorem dX10_dials_32 : decode cX10_dials 32 = .ok (.iadd, 1) := by decide +kernel
theorem dX10_dials_33 : decode cX10_dials 33 = .ok (.putfield 106, 3) := by decide +kernel
theorem dX10_dials_36 : decode cX10_dials 36 = .ok (.aload_n 0, 1) := by decide +kernel
theorem dX10_dials_37 : decode cX10_dials 37 = .ok (.iload_n 1, 1) := by decide +kernel
theorem dX10_dials_38 : decode cX10_dials 38 = .ok (.invokevirtual 109, 3) := by decide +kernel
theorem dX10_dials_41 : decode cX10_dials 41 = .ok (.return_, 1) := by decide +kernel
theorem dX10_begins_0 : decode cX10_begins 0 = .ok (.iload_n 1, 1) := by decide +kernel
theorem dX10_begins_1 : decode cX10_begins 1 = .ok (.invokestatic 103, 3) := by decide +kernel
theorem dX10_begins_4 : decode cX10_begins 4 = .ok (.istore_n 2, 1) := by decide +kernel
theorem dX10_begins_5 : decode cX10_begins 5 = .ok (.iload_n 1, 1) := by decide +kernel
theorem dX10_begins_6 : decode cX10_begins 6 = .ok (.istore_n 3, 1) := by decide +kernel
theorem dX10_begins_7 : decode cX10_begins 7 = .ok (.iload_n 2, 1) := by decide +kernel
theorem dX10_begins_8 : decode cX10_begins 8 = .ok (.aload_n 0, 1) := by decide +kernel
theorem dX10_begins_9 : decode cX10_begins 9 = .ok (.getfield 106, 3) := by decide +kernel
theorem dX10_begins_12 : decode cX10_begins 12 = .ok (.if_icmp .gt 7, 3) := by decide +kernel
theorem dX10_begins_15 : decode cX10_begins 15 = .ok (.iconst 1, 1) := by decide +kernel
theorem dX10_begins_16 : decode cX10_begins 16 = .ok (.goto 4, 3) := by decide +kernel
theorem dX10_begins_19 : decode cX10_begins 19 = .ok (.iconst 0, 1) := by decide +kernel
theorem dX10_begins_20 : decode cX10_begins 20 = .ok (.istore 4, 2) := by decide +kernel
theorem dX10_begins_22 : decode cX10_begins 22 = .ok (.iload_n 2, 1) := by decide +kernel
theorem dX10_begins_23 : decode cX10_begins 23 = .ok (.iconst 1, 1) := by decide +kernel
theorem dX10_begins_24 : decode cX10_begins 24 = .ok (.isub, 1) := by decide +kernel
theorem dX10_begins_25 : decode cX10_begins 25 = .ok (.istore 5, 2) := by decide +kernel
theorem dX10_begins_27 : decode cX10_begins 27 = .ok (.iload 5, 2) := by decide +kernel
theorem dX10_begins_29 : decode cX10_begins 29 = .ok (.ifCond .lt 40, 3) := by decide +kernel
theorem dX10_begins_32 : decode cX10_begins 32 = .ok (.iload 4, 2) := by decide +kernel
theorem dX10_begins_34 : decode cX10_begins 34 = .ok (.ifCond .eq 35, 3) := by decide +kernel
theorem dX10_begins_37 : decode cX10_begins 37 = .ok (.aload_n 0, 1) := by decide +kernel
theorem dX10_begins_38 : decode cX10_begins 38 = .ok (.getfield 19, 3) := by decide +kernel
theorem dX10_begins_41 : decode cX10_begins 41 = .ok (.iload 5, 2) := by decide +kernel
theorem dX10_begins_43 : decode cX10_begins 43 = .ok (.iaload, 1) := by decide +kernel
theorem dX10_begins_44 : decode cX10_begins 44 = .ok (.iload_n 3, 1) := by decide +kernel
theorem dX10_begins_45 : decode cX10_begins 45 = .ok (.bipush 10, 2) := by decide +kernel
theorem dX10_begins_47 : decode cX10_begins 47 = .ok (.irem, 1) := by decide +kernel
theorem dX10_begins_48 : decode cX10_begins 48 = .ok (.if_icmp .ne 7, 3) := by decide +kernel
theorem dX10_begins_51 : decode cX10_begins 51 = .ok (.iconst 1, 1) := by decide +kernel
theorem dX10_begins_52 : decode cX10_begins 52 = .ok (.goto 4, 3) := by decide +kernel
theorem dX10_begins_55 : decode cX10_begins 55 = .ok (.iconst 0, 1) := by decide +kernel
theorem dX10_begins_56 : decode cX10_begins 56 = .ok (.istore 4, 2) := by decide +kernel
theorem dX10_begins_58 : decode cX10_begins 58 = .ok (.iload_n 3, 1) := by decide +kernel
theorem dX10_begins_59 : decode cX10_begins 59 = .ok (.bipush 10, 2) := by decide +kernel
theorem dX10_begins_61 : decode cX10_begins 61 = .ok (.idiv, 1) := by decide +kernel
theorem dX10_begins_62 : decode cX10_begins 62 = .ok (.istore_n 3, 1) := by decide +kernel
theorem dX10_begins_63 : decode cX10_begins 63 = .ok (.iinc 5 (-1), 3) := by decide +kernel
theorem dX10_begins_66 : decode cX10_begins 66 = .ok (.goto (-39), 3) := by decide +kernel
theorem dX10_begins_69 : decode cX10_begins 69 = .ok (.iload 4, 2) := by decide +kernel
theorem dX10_begins_71 : decode cX10_begins 71 = .ok (.ireturn, 1) := by decide +kernel
theorem dX10_bandOf_0 : decode cX10_bandOf 0 = .ok (.iload_n 1, 1) := by decide +kernel
theorem dX10_bandOf_1 : decode cX10_bandOf 1 = .ok (.sipush 10080, 3) := by decide +kernel
theorem dX10_bandOf_4 : decode cX10_bandOf 4 = .ok (.irem, 1) := by decide +kernel
theorem dX10_bandOf_5 : decode cX10_bandOf 5 = .ok (.istore_n 2, 1) := by decide +kernel
theorem dX10_bandOf_6 : decode cX10_bandOf 6 = .ok (.iload_n 2, 1) := by decide +kernel
theorem dX10_bandOf_7 : decode cX10_bandOf 7 = .ok (.sipush 7200, 3) := by decide +kernel
theorem dX10_bandOf_10 : decode cX10_bandOf 10 = .ok (.if_icmp .lt 7, 3) := by decide +kernel
theorem dX10_bandOf_13 : decode cX10_bandOf 13 = .ok (.iconst 2, 1) := by decide +kernel
theorem dX10_bandOf_14 : decode cX10_bandOf 14 = .ok (.goto 25, 3) := by decide +kernel
theorem dX10_bandOf_17 : decode cX10_bandOf 17 = .ok (.iload_n 2, 1) := by decide +kernel
theorem dX10_bandOf_18 : decode cX10_bandOf 18 = .ok (.sipush 1440, 3) := by decide +kernel
theorem dX10_bandOf_21 : decode cX10_bandOf 21 = .ok (.irem, 1) := by decide +kernel
theorem dX10_bandOf_22 : decode cX10_bandOf 22 = .ok (.sipush 480, 3) := by decide +kernel
theorem dX10_bandOf_25 : decode cX10_bandOf 25 = .ok (.sipush 1199, 3) := by decide +kernel
theorem dX10_bandOf_28 : decode cX10_bandOf 28 = .ok (.invokestatic 66, 3) := by decide +kernel
theorem dX10_bandOf_31 : decode cX10_bandOf 31 = .ok (.ifCond .eq 7, 3) := by decide +kernel
theorem dX10_bandOf_34 : decode cX10_bandOf 34 = .ok (.iconst 0, 1) := by decide +kernel
theorem dX10_bandOf_35 : decode cX10_bandOf 35 = .ok (.goto 4, 3) := by decide +kernel
theorem dX10_bandOf_38 : decode cX10_bandOf 38 = .ok (.iconst 1, 1) := by decide +kernel
theorem dX10_bandOf_39 : decode cX10_bandOf 39 = .ok (.ireturn, 1) := by decide +kernel
theorem dX10_gathers_0 : decode cX10_gathers 0 = .ok (.iconst (-1), 1) := by decide +kernel
theorem dX10_gathers_1 : decode cX10_gathers 1 = .ok (.istore_n 3, 1) := by decide +kernel
theorem dX10_gathers_2 : decode cX10_gathers 2 = .ok (.iconst 0, 1) := by decide +kernel
theorem dX10_gathers_3 : decode cX10_gathers 3 = .ok (.istore 4, 2) := by decide +kernel
theorem dX10_gathers_5 : decode cX10_gathers 5 = .ok (.iload 4, 2) := by decide +kernel
theorem dX10_gathers_7 : decode cX10_gathers 7 = .ok (.aload_n 0, 1) := by decide +kernel
theorem dX10_gathers_8 : decode cX10_gathers 8 = .ok (.getfield 7, 3) := by decide +kernel
theorem dX10_gathers_11 : decode cX10_gathers 11 = .ok (.iconst 1, 1) := by decide +kernel
theorem dX10_gathers_12 : decode cX10_gathers 12 = .ok (.iaload, 1) := by decide +kernel
theorem dX10_gathers_13 : decode cX10_gathers 13 = .ok (.if_icmp .ge 59, 3) := by decide +kernel
theorem dX10_gathers_16 : decode cX10_gathers 16 = .ok (.aload_n 0, 1) := by decide +kernel
theorem dX10_gathers_17 : decode cX10_gathers 17 = .ok (.iload 4, 2) := by decide +kernel
theorem dX10_gathers_19 : decode cX10_gathers 19 = .ok (.iconst 1, 1) := by decide +kernel
theorem dX10_gathers_20 : decode cX10_gathers 20 = .ok (.invokevirtual 71, 3) := by decide +kernel
theorem dX10_gathers_23 : decode cX10_gathers 23 = .ok (.invokestatic 103, 3) := by decide +kernel
theorem dX10_gathers_26 : decode cX10_gathers 26 = .ok (.istore 5, 2) := by decide +kernel
theorem dX10_gathers_28 : decode cX10_gathers 28 = .ok (.aload_n 0, 1) := by decide +kernel
theorem dX10_gathers_29 : decode cX10_gathers 29 = .ok (.iload 4, 2) := by decide +kernel
theorem dX10_gathers_31 : decode cX10_gathers 31 = .ok (.iconst 0, 1) := by decide +kernel
theorem dX10_gathers_32 : decode cX10_gathers 32 = .ok (.invokevirtual 71, 3) := by decide +kernel
theorem dX10_gathers_35 : decode cX10_gathers 35 = .ok (.iload_n 1, 1) := by decide +kernel
theorem dX10_gathers_36 : decode cX10_gathers 36 = .ok (.if_icmp .ne 28, 3) := by decide +kernel
theorem dX10_gathers_39 : decode cX10_gathers 39 = .ok (.aload_n 0, 1) := by decide +kernel
theorem dX10_gathers_40 : decode cX10_gathers 40 = .ok (.aload_n 0, 1) := by decide +kernel
theorem dX10_gathers_41 : decode cX10_gathers 41 = .ok (.iload 4, 2) := by decide +kernel
theorem dX10_gathers_43 : decode cX10_gathers 43 = .ok (.iconst 1, 1) := by decide +kernel
theorem dX10_gathers_44 : decode cX10_gathers 44 = .ok (.invokevirtual 71, 3) := by decide +kernel
theorem dX10_gathers_47 : decode cX10_gathers 47 = .ok (.invokevirtual 113, 3) := by decide +kernel
theorem dX10_gathers_50 : decode cX10_gathers 50 = .ok (.ifCond .eq 14, 3) := by decide +kernel
theorem dX10_gathers_53 : decode cX10_gathers 53 = .ok (.iload 5, 2) := by decide +kernel
theorem dX10_gathers_55 : decode cX10_gathers 55 = .ok (.iload_n 3, 1) := by decide +kernel
theorem dX10_gathers_56 : decode cX10_gathers 56 = .ok (.if_icmp .le 8, 3) := by decide +kernel
theorem dX10_gathers_59 : decode cX10_gathers 59 = .ok (.iload 5, 2) := by decide +kernel
theorem dX10_gathers_61 : decode cX10_gathers 61 = .ok (.goto 4, 3) := by decide +kernel
theorem dX10_gathers_64 : decode cX10_gathers 64 = .ok (.iload_n 3, 1) := by decide +kernel
theorem dX10_gathers_65 : decode cX10_gathers 65 = .ok (.istore_n 3, 1) := by decide +kernel
theorem dX10_gathers_66 : decode cX10_gathers 66 = .ok (.iinc 4 1, 3) := by decide +kernel
theorem dX10_gathers_69 : decode cX10_gathers 69 = .ok (.goto (-64), 3) := by decide +kernel
theorem dX10_gathers_72 : decode cX10_gathers 72 = .ok (.aload_n 0, 1) := by decide +kernel
theorem dX10_gathers_73 : decode cX10_gathers 73 = .ok (.aload_n 0, 1) := by decide +kernel
theorem dX10_gathers_74 : decode cX10_gathers 74 = .ok (.getfield 7, 3) := by decide +kernel
theorem dX10_gathers_77 : decode cX10_gathers 77 = .ok (.iconst 4, 1) := by decide +kernel
theorem dX10_gathers_78 : decode cX10_gathers 78 = .ok (.iaload, 1) := by decide +kernel
theorem dX10_gathers_79 : decode cX10_gathers 79 = .ok (.invokevirtual 116, 3) := by decide +kernel
theorem dX10_gathers_82 : decode cX10_gathers 82 = .ok (.istore 4, 2) := by decide +kernel
theorem dX10_gathers_84 : decode cX10_gathers 84 = .ok (.iconst 0, 1) := by decide +kernel
theorem dX10_gathers_85 : decode cX10_gathers 85 = .ok (.istore 5, 2) := by decide +kernel
theorem dX10_gathers_87 : decode cX10_gathers 87 = .ok (.iconst 0, 1) := by decide +kernel
theorem dX10_gathers_88 : decode cX10_gathers 88 = .ok (.istore 6, 2) := by decide +kernel
theorem dX10_gathers_90 : decode cX10_gathers 90 = .ok (.iload 6, 2) := by decide +kernel
theorem dX10_gathers_92 : decode cX10_gathers 92 = .ok (.aload_n 0, 1) := by decide +kernel
theorem dX10_gathers_93 : decode cX10_gathers 93 = .ok (.getfield 7, 3) := by decide +kernel
theorem dX10_gathers_96 : decode cX10_gathers 96 = .ok (.iconst 1, 1) := by decide +kernel
theorem dX10_gathers_97 : decode cX10_gathers 97 = .ok (.iaload, 1) := by decide +kernel
theorem dX10_gathers_98 : decode cX10_gathers 98 = .ok (.if_icmp .ge 129, 3) := by decide +kernel
theorem dX10_gathers_101 : decode cX10_gathers 101 = .ok (.aload_n 0, 1) := by decide +kernel
theorem dX10_gathers_102 : decode cX10_gathers 102 = .ok (.iload 6, 2) := by decide +kernel
theorem dX10_gathers_104 : decode cX10_gathers 104 = .ok (.iconst 0, 1) := by decide +kernel
theorem dX10_gathers_105 : decode cX10_gathers 105 = .ok (.invokevirtual 71, 3) := by decide +kernel
theorem dX10_gathers_108 : decode cX10_gathers 108 = .ok (.iload_n 1, 1) := by decide +kernel
theorem dX10_gathers_109 : decode cX10_gathers 109 = .ok (.if_icmp .ne 112, 3) := by decide +kernel
theorem dX10_gathers_112 : decode cX10_gathers 112 = .ok (.aload_n 0, 1) := by decide +kernel
theorem dX10_gathers_113 : decode cX10_gathers 113 = .ok (.aload_n 0, 1) := by decide +kernel
theorem dX10_gathers_114 : decode cX10_gathers 114 = .ok (.iload 6, 2) := by decide +kernel
theorem dX10_gathers_116 : decode cX10_gathers 116 = .ok (.iconst 1, 1) := by decide +kernel
theorem dX10_gathers_117 : decode cX10_gathers 117 = .ok (.invokevirtual 71, 3) := by decide +kernel
theorem dX10_gathers_120 : decode cX10_gathers 120 = .ok (.invokevirtual 113, 3) := by decide +kernel
theorem dX10_gathers_123 : decode cX10_gathers 123 = .ok (.ifCond .eq 98, 3) := by decide +kernel
theorem dX10_gathers_126 : decode cX10_gathers 126 = .ok (.aload_n 0, 1) := by decide +kernel
theorem dX10_gathers_127 : decode cX10_gathers 127 = .ok (.iload 6, 2) := by decide +kernel
theorem dX10_gathers_129 : decode cX10_gathers 129 = .ok (.iconst 1, 1) := by decide +kernel
theorem dX10_gathers_130 : decode cX10_gathers 130 = .ok (.invokevirtual 71, 3) := by decide +kernel
theorem dX10_gathers_133 : decode cX10_gathers 133 = .ok (.invokestatic 103, 3) := by decide +kernel
theorem dX10_gathers_136 : decode cX10_gathers 136 = .ok (.iload_n 3, 1) := by decide +kernel
theorem dX10_gathers_137 : decode cX10_gathers 137 = .ok (.if_icmp .ne 84, 3) := by decide +kernel
theorem dX10_gathers_140 : decode cX10_gathers 140 = .ok (.iload 5, 2) := by decide +kernel
theorem dX10_gathers_142 : decode cX10_gathers 142 = .ok (.istore 7, 2) := by decide +kernel
theorem dX10_gathers_144 : decode cX10_gathers 144 = .ok (.iload 7, 2) := by decide +kernel
theorem dX10_gathers_146 : decode cX10_gathers 146 = .ok (.ifCond .le 61, 3) := by decide +kernel
theorem dX10_gathers_149 : decode cX10_gathers 149 = .ok (.aload_n 0, 1) := by decide +kernel
theorem dX10_gathers_150 : decode cX10_gathers 150 = .ok (.aload_n 0, 1) := by decide +kernel
theorem dX10_gathers_151 : decode cX10_gathers 151 = .ok (.getfield 28, 3) := by decide +kernel
theorem dX10_gathers_154 : decode cX10_gathers 154 = .ok (.iload_n 2, 1) := by decide +kernel
theorem dX10_gathers_155 : decode cX10_gathers 155 = .ok (.iload 7, 2) := by decide +kernel
theorem dX10_gathers_157 : decode cX10_gathers 157 = .ok (.iadd, 1) := by decide +kernel
theorem dX10_gathers_158 : decode cX10_gathers 158 = .ok (.iconst 1, 1) := by decide +kernel
theorem dX10_gathers_159 : decode cX10_gathers 159 = .ok (.isub, 1) := by decide +kernel
theorem dX10_gathers_160 : decode cX10_gathers 160 = .ok (.iaload, 1) := by decide +kernel
theorem dX10_gathers_161 : decode cX10_gathers 161 = .ok (.iconst 3, 1) := by decide +kernel
theorem dX10_gathers_162 : decode cX10_gathers 162 = .ok (.iload 4, 2) := by decide +kernel
theorem dX10_gathers_164 : decode cX10_gathers 164 = .ok (.iadd, 1) := by decide +kernel
theorem dX10_gathers_165 : decode cX10_gathers 165 = .ok (.invokevirtual 71, 3) := by decide +kernel
theorem dX10_gathers_168 : decode cX10_gathers 168 = .ok (.aload_n 0, 1) := by decide +kernel
theorem dX10_gathers_169 : decode cX10_gathers 169 = .ok (.iload 6, 2) := by decide +kernel
theorem dX10_gathers_171 : decode cX10_gathers 171 = .ok (.iconst 3, 1) := by decide +kernel
theorem dX10_gathers_172 : decode cX10_gathers 172 = .ok (.iload 4, 2) := by decide +kernel
theorem dX10_gathers_174 : decode cX10_gathers 174 = .ok (.iadd, 1) := by decide +kernel
theorem dX10_gathers_175 : decode cX10_gathers 175 = .ok (.invokevirtual 71, 3) := by decide +kernel
theorem dX10_gathers_178 : decode cX10_gathers 178 = .ok (.if_icmp .le 29, 3) := by decide +kernel
theorem dX10_gathers_181 : decode cX10_gathers 181 = .ok (.aload_n 0, 1) := by decide +kernel
theorem dX10_gathers_182 : decode cX10_gathers 182 = .ok (.getfield 28, 3) := by decide +kernel
theorem dX10_gathers_185 : decode cX10_gathers 185 = .ok (.iload_n 2, 1) := by decide +kernel
theorem dX10_gathers_186 : decode cX10_gathers 186 = .ok (.iload 7, 2) := by decide +kernel
theorem dX10_gathers_188 : decode cX10_gathers 188 = .ok (.iadd, 1) := by decide +kernel
theorem dX10_gathers_189 : decode cX10_gathers 189 = .ok (.aload_n 0, 1) := by decide +kernel
theorem dX10_gathers_190 : decode cX10_gathers 190 = .ok (.getfield 28, 3) := by decide +kernel
theorem dX10_gathers_193 : decode cX10_gathers 193 = .ok (.iload_n 2, 1) := by decide +kernel
theorem dX10_gathers_194 : decode cX10_gathers 194 = .ok (.iload 7, 2) := by decide +kernel
theorem dX10_gathers_196 : decode cX10_gathers 196 = .ok (.iadd, 1) := by decide +kernel
theorem dX10_gathers_197 : decode cX10_gathers 197 = .ok (.iconst 1, 1) := by decide +kernel
theorem dX10_gathers_198 : decode cX10_gathers 198 = .ok (.isub, 1) := by decide +kernel
theorem dX10_gathers_199 : decode cX10_gathers 199 = .ok (.iaload, 1) := by decide +kernel
theorem dX10_gathers_200 : decode cX10_gathers 200 = .ok (.iastore, 1) := by decide +kernel
theorem dX10_gathers_201 : decode cX10_gathers 201 = .ok (.iinc 7 (-1), 3) := by decide +kernel
theorem dX10_gathers_204 : decode cX10_gathers 204 = .ok (.goto (-60), 3) := by decide +kernel
theorem dX10_gathers_207 : decode cX10_gathers 207 = .ok (.aload_n 0, 1) := by decide +kernel
theorem dX10_gathers_208 : decode cX10_gathers 208 = .ok (.getfield 28, 3) := by decide +kernel
theorem dX10_gathers_211 : decode cX10_gathers 211 = .ok (.iload_n 2, 1) := by decide +kernel
theorem dX10_gathers_212 : decode cX10_gathers 212 = .ok (.iload 7, 2) := by decide +kernel
theorem dX10_gathers_214 : decode cX10_gathers 214 = .ok (.iadd, 1) := by decide +kernel
theorem dX10_gathers_215 : decode cX10_gathers 215 = .ok (.iload 6, 2) := by decide +kernel
theorem dX10_gathers_217 : decode cX10_gathers 217 = .ok (.iastore, 1) := by decide +kernel
theorem dX10_gathers_218 : decode cX10_gathers 218 = .ok (.iinc 5 1, 3) := by decide +kernel
theorem dX10_gathers_221 : decode cX10_gathers 221 = .ok (.iinc 6 1, 3) := by decide +kernel
theorem dX10_gathers_224 : decode cX10_gathers 224 = .ok (.goto (-134), 3) := by decide +kernel
theorem dX10_gathers_227 : decode cX10_gathers 227 = .ok (.iload 5, 2) := by decide +kernel
theorem dX10_gathers_229 : decode cX10_gathers 229 = .ok (.ireturn, 1) := by decide +kernel
theorem dX10_isBusy_0 : decode cX10_isBusy 0 = .ok (.iconst 0, 1) := by decide +kernel
theorem dX10_isBusy_1 : decode cX10_isBusy 1 = .ok (.istore_n 2, 1) := by decide +kernel
theorem dX10_isBusy_2 : decode cX10_isBusy 2 = .ok (.iconst 0, 1) := by decide +kernel
theorem dX10_isBusy_3 : decode cX10_isBusy 3 = .ok (.istore_n 3, 1) := by decide +kernel
theorem dX10_isBusy_4 : decode cX10_isBusy 4 = .ok (.iload_n 3, 1) := by decide +kernel
theorem dX10_isBusy_5 : decode cX10_isBusy 5 = .ok (.bipush 10, 2) := by decide +kernel
theorem dX10_isBusy_7 : decode cX10_isBusy 7 = .ok (.if_icmp .ge 55, 3) := by decide +kernel
theorem dX10_isBusy_10 : decode cX10_isBusy 10 = .ok (.iload_n 2, 1) := by decide +kernel
theorem dX10_isBusy_11 : decode cX10_isBusy 11 = .ok (.ifCond .ne 39, 3) := by decide +kernel
theorem dX10_isBusy_14 : decode cX10_isBusy 14 = .ok (.aload_n 0, 1) := by decide +kernel
theorem dX10_isBusy_15 : decode cX10_isBusy 15 = .ok (.getfield 7, 3) := by decide +kernel
theorem dX10_isBusy_18 : decode cX10_isBusy 18 = .ok (.sipush 420, 3) := by decide +kernel
theorem dX10_isBusy_21 : decode cX10_isBusy 21 = .ok (.bipush 14, 2) := by decide +kernel
theorem dX10_isBusy_23 : decode cX10_isBusy 23 = .ok (.iload_n 3, 1) := by decide +kernel
theorem dX10_isBusy_24 : decode cX10_isBusy 24 = .ok (.imul, 1) := by decide +kernel
theorem dX10_isBusy_25 : decode cX10_isBusy 25 = .ok (.iadd, 1) := by decide +kernel
theorem dX10_isBusy_26 : decode cX10_isBusy 26 = .ok (.iaload, 1) := by decide +kernel
theorem dX10_isBusy_27 : decode cX10_isBusy 27 = .ok (.iconst 1, 1) := by decide +kernel
theorem dX10_isBusy_28 : decode cX10_isBusy 28 = .ok (.if_icmp .ne 26, 3) := by decide +kernel
theorem dX10_isBusy_31 : decode cX10_isBusy 31 = .ok (.aload_n 0, 1) := by decide +kernel
theorem dX10_isBusy_32 : decode cX10_isBusy 32 = .ok (.getfield 7, 3) := by decide +kernel
theorem dX10_isBusy_35 : decode cX10_isBusy 35 = .ok (.sipush 420, 3) := by decide +kernel
theorem dX10_isBusy_38 : decode cX10_isBusy 38 = .ok (.bipush 14, 2) := by decide +kernel
theorem dX10_isBusy_40 : decode cX10_isBusy 40 = .ok (.iload_n 3, 1) := by decide +kernel
theorem dX10_isBusy_41 : decode cX10_isBusy 41 = .ok (.imul, 1) := by decide +kernel
theorem dX10_isBusy_42 : decode cX10_isBusy 42 = .ok (.iadd, 1) := by decide +kernel
theorem dX10_isBusy_43 : decode cX10_isBusy 43 = .ok (.iconst 1, 1) := by decide +kernel
theorem dX10_isBusy_44 : decode cX10_isBusy 44 = .ok (.iadd, 1) := by decide +kernel
theorem dX10_isBusy_45 : decode cX10_isBusy 45 = .ok (.iaload, 1) := by decide +kernel
theorem dX10_isBusy_46 : decode cX10_isBusy 46 = .ok (.iload_n 1, 1) := by decide +kernel
theorem dX10_isBusy_47 : decode cX10_isBusy 47 = .ok (.if_icmp .ne 7, 3) := by decide +kernel
theorem dX10_isBusy_50 : decode cX10_isBusy 50 = .ok (.iconst 1, 1) := by decide +kernel
theorem dX10_isBusy_51 : decode cX10_isBusy 51 = .ok (.goto 4, 3) := by decide +kernel
theorem dX10_isBusy_54 : decode cX10_isBusy 54 = .ok (.iconst 0, 1) := by decide +kernel
theorem dX10_isBusy_55 : decode cX10_isBusy 55 = .ok (.istore_n 2, 1) := by decide +kernel
theorem dX10_isBusy_56 : decode cX10_isBusy 56 = .ok (.iinc 3 1, 3) := by decide +kernel
theorem dX10_isBusy_59 : decode cX10_isBusy 59 = .ok (.goto (-55), 3) := by decide +kernel
theorem dX10_isBusy_62 : decode cX10_isBusy 62 = .ok (.iload_n 2, 1) := by decide +kernel
theorem dX10_isBusy_63 : decode cX10_isBusy 63 = .ok (.ireturn, 1) := by decide +kernel
theorem dX10_arrives_0 : decode cX10_arrives 0 = .ok (.aload_n 0, 1) := by decide +kernel
theorem dX10_arrives_1 : decode cX10_arrives 1 = .ok (.getfield 119, 3) := by decide +kernel
theorem dX10_arrives_4 : decode cX10_arrives 4 = .ok (.iconst 1, 1) := by decide +kernel
theorem dX10_arrives_5 : decode cX10_arrives 5 = .ok (.iadd, 1) := by decide +kernel
theorem dX10_arrives_6 : decode cX10_arrives 6 = .ok (.istore 4, 2) := by decide +kernel
theorem dX10_arrives_8 : decode cX10_arrives 8 = .ok (.iconst 0, 1) := by decide +kernel
theorem dX10_arrives_9 : decode cX10_arrives 9 = .ok (.istore 5, 2) := by decide +kernel
theorem dX10_arrives_11 : decode cX10_arrives 11 = .ok (.iload 5, 2) := by decide +kernel
theorem dX10_arrives_13 : decode cX10_arrives 13 = .ok (.iload 4, 2) := by decide +kernel
theorem dX10_arrives_15 : decode cX10_arrives 15 = .ok (.if_icmp .ge 22, 3) := by decide +kernel
theorem dX10_arrives_18 : decode cX10_arrives 18 = .ok (.aload_n 0, 1) := by decide +kernel
theorem dX10_arrives_19 : decode cX10_arrives 19 = .ok (.getfield 22, 3) := by decide +kernel
theorem dX10_arrives_22 : decode cX10_arrives 22 = .ok (.iload 5, 2) := by decide +kernel
theorem dX10_arrives_24 : decode cX10_arrives 24 = .ok (.iaload, 1) := by decide +kernel
theorem dX10_arrives_25 : decode cX10_arrives 25 = .ok (.iload_n 1, 1) := by decide +kernel
theorem dX10_arrives_26 : decode cX10_arrives 26 = .ok (.if_icmp .ne 5, 3) := by decide +kernel
theorem dX10_arrives_29 : decode cX10_arrives 29 = .ok (.iconst 3, 1) := by decide +kernel
theorem dX10_arrives_30 : decode cX10_arrives 30 = .ok (.ireturn, 1) := by decide +kernel
theorem dX10_arrives_31 : decode cX10_arrives 31 = .ok (.iinc 5 1, 3) := by decide +kernel
theorem dX10_arrives_34 : decode cX10_arrives 34 = .ok (.goto (-23), 3) := by decide +kernel
theorem dX10_arrives_37 : decode cX10_arrives 37 = .ok (.iload 4, 2) := by decide +kernel
theorem dX10_arrives_39 : decode cX10_arrives 39 = .ok (.aload_n 0, 1) := by decide +kernel
theorem dX10_arrives_40 : decode cX10_arrives 40 = .ok (.getfield 7, 3) := by decide +kernel
theorem dX10_arrives_43 : decode cX10_arrives 43 = .ok (.iconst 3, 1) := by decide +kernel
theorem dX10_arrives_44 : decode cX10_arrives 44 = .ok (.iaload, 1) := by decide +kernel
theorem dX10_arrives_45 : decode cX10_arrives 45 = .ok (.if_icmp .ne 5, 3) := by decide +kernel
theorem dX10_arrives_48 : decode cX10_arrives 48 = .ok (.iconst 4, 1) := by decide +kernel
theorem dX10_arrives_49 : decode cX10_arrives 49 = .ok (.ireturn, 1) := by decide +kernel
theorem dX10_arrives_50 : decode cX10_arrives 50 = .ok (.iload_n 3, 1) := by decide +kernel
theorem dX10_arrives_51 : decode cX10_arrives 51 = .ok (.istore 5, 2) := by decide +kernel
theorem dX10_arrives_53 : decode cX10_arrives 53 = .ok (.aload_n 0, 1) := by decide +kernel
theorem dX10_arrives_54 : decode cX10_arrives 54 = .ok (.iload_n 2, 1) := by decide +kernel
theorem dX10_arrives_55 : decode cX10_arrives 55 = .ok (.invokevirtual 93, 3) := by decide +kernel
theorem dX10_arrives_58 : decode cX10_arrives 58 = .ok (.istore 6, 2) := by decide +kernel
theorem dX10_arrives_60 : decode cX10_arrives 60 = .ok (.iload 5, 2) := by decide +kernel
theorem dX10_arrives_62 : decode cX10_arrives 62 = .ok (.ifCond .ge 38, 3) := by decide +kernel
theorem dX10_arrives_65 : decode cX10_arrives 65 = .ok (.aload_n 0, 1) := by decide +kernel
theorem dX10_arrives_66 : decode cX10_arrives 66 = .ok (.getfield 7, 3) := by decide +kernel
theorem dX10_arrives_69 : decode cX10_arrives 69 = .ok (.bipush 10, 2) := by decide +kernel
theorem dX10_arrives_71 : decode cX10_arrives 71 = .ok (.iload_n 1, 1) := by decide +kernel
theorem dX10_arrives_72 : decode cX10_arrives 72 = .ok (.iadd, 1) := by decide +kernel
theorem dX10_arrives_73 : decode cX10_arrives 73 = .ok (.iaload, 1) := by decide +kernel
theorem dX10_arrives_74 : decode cX10_arrives 74 = .ok (.iconst 1, 1) := by decide +kernel
theorem dX10_arrives_75 : decode cX10_arrives 75 = .ok (.if_icmp .ne 25, 3) := by decide +kernel
theorem dX10_arrives_78 : decode cX10_arrives 78 = .ok (.iload 6, 2) := by decide +kernel
theorem dX10_arrives_80 : decode cX10_arrives 80 = .ok (.ifCond .lt 20, 3) := by decide +kernel
theorem dX10_arrives_83 : decode cX10_arrives 83 = .ok (.aload_n 0, 1) := by decide +kernel
theorem dX10_arrives_84 : decode cX10_arrives 84 = .ok (.getfield 7, 3) := by decide +kernel
theorem dX10_arrives_87 : decode cX10_arrives 87 = .ok (.sipush 350, 3) := by decide +kernel
theorem dX10_arrives_90 : decode cX10_arrives 90 = .ok (.iconst 2, 1) := by decide +kernel
theorem dX10_arrives_91 : decode cX10_arrives 91 = .ok (.iload 6, 2) := by decide +kernel
theorem dX10_arrives_93 : decode cX10_arrives 93 = .ok (.imul, 1) := by decide +kernel
theorem dX10_arrives_94 : decode cX10_arrives 94 = .ok (.iadd, 1) := by decide +kernel
theorem dX10_arrives_95 : decode cX10_arrives 95 = .ok (.iconst 1, 1) := by decide +kernel
theorem dX10_arrives_96 : decode cX10_arrives 96 = .ok (.iadd, 1) := by decide +kernel
theorem dX10_arrives_97 : decode cX10_arrives 97 = .ok (.iaload, 1) := by decide +kernel
theorem dX10_arrives_98 : decode cX10_arrives 98 = .ok (.istore 5, 2) := by decide +kernel
theorem dX10_arrives_100 : decode cX10_arrives 100 = .ok (.iload 5, 2) := by decide +kernel
theorem dX10_arrives_102 : decode cX10_arrives 102 = .ok (.iload_n 1, 1) := by decide +kernel
theorem dX10_arrives_103 : decode cX10_arrives 103 = .ok (.if_icmp .ne 5, 3) := by decide +kernel
theorem dX10_arrives_106 : decode cX10_arrives 106 = .ok (.iconst 0, 1) := by decide +kernel
theorem dX10_arrives_107 : decode cX10_arrives 107 = .ok (.ireturn, 1) := by decide +kernel
theorem dX10_arrives_108 : decode cX10_arrives 108 = .ok (.aload_n 0, 1) := by decide +kernel
theorem dX10_arrives_109 : decode cX10_arrives 109 = .ok (.iload_n 2, 1) := by decide +kernel
theorem dX10_arrives_110 : decode cX10_arrives 110 = .ok (.iload 5, 2) := by decide +kernel
theorem dX10_arrives_112 : decode cX10_arrives 112 = .ok (.invokevirtual 122, 3) := by decide +kernel
theorem dX10_arrives_115 : decode cX10_arrives 115 = .ok (.aload_n 0, 1) := by decide +kernel
theorem dX10_arrives_116 : decode cX10_arrives 116 = .ok (.iload_n 1, 1) := by decide +kernel
theorem dX10_arrives_117 : decode cX10_arrives 117 = .ok (.bipush 40, 2) := by decide +kernel
theorem dX10_arrives_119 : decode cX10_arrives 119 = .ok (.iload 4, 2) := by decide +kernel
theorem dX10_arrives_121 : decode cX10_arrives 121 = .ok (.imul, 1) := by decide +kernel
theorem dX10_arrives_122 : decode cX10_arrives 122 = .ok (.invokevirtual 126, 3) := by decide +kernel
theorem dX10_arrives_125 : decode cX10_arrives 125 = .ok (.istore 7, 2) := by decide +kernel
theorem dX10_arrives_127 : decode cX10_arrives 127 = .ok (.iload 7, 2) := by decide +kernel
theorem dX10_arrives_129 : decode cX10_arrives 129 = .ok (.ifCond .ne 5, 3) := by decide +kernel
theorem dX10_arrives_132 : decode cX10_arrives 132 = .ok (.iconst 1, 1) := by decide +kernel
theorem dX10_arrives_133 : decode cX10_arrives 133 = .ok (.ireturn, 1) := by decide +kernel
theorem dX10_arrives_134 : decode cX10_arrives 134 = .ok (.aload_n 0, 1) := by decide +kernel
theorem dX10_arrives_135 : decode cX10_arrives 135 = .ok (.iload 4, 2) := by decide +kernel
theorem dX10_arrives_137 : decode cX10_arrives 137 = .ok (.putfield 119, 3) := by decide +kernel
theorem dX10_arrives_140 : decode cX10_arrives 140 = .ok (.aload_n 0, 1) := by decide +kernel
theorem dX10_arrives_141 : decode cX10_arrives 141 = .ok (.getfield 22, 3) := by decide +kernel
theorem dX10_arrives_144 : decode cX10_arrives 144 = .ok (.iload 4, 2) := by decide +kernel
theorem dX10_arrives_146 : decode cX10_arrives 146 = .ok (.iload_n 1, 1) := by decide +kernel
theorem dX10_arrives_147 : decode cX10_arrives 147 = .ok (.iastore, 1) := by decide +kernel
theorem dX10_arrives_148 : decode cX10_arrives 148 = .ok (.aload_n 0, 1) := by decide +kernel
theorem dX10_arrives_149 : decode cX10_arrives 149 = .ok (.getfield 25, 3) := by decide +kernel
theorem dX10_arrives_152 : decode cX10_arrives 152 = .ok (.iload 4, 2) := by decide +kernel
theorem dX10_arrives_154 : decode cX10_arrives 154 = .ok (.iload 5, 2) := by decide +kernel
theorem dX10_arrives_156 : decode cX10_arrives 156 = .ok (.iastore, 1) := by decide +kernel
theorem dX10_arrives_157 : decode cX10_arrives 157 = .ok (.aload_n 0, 1) := by decide +kernel
theorem dX10_arrives_158 : decode cX10_arrives 158 = .ok (.getfield 31, 3) := by decide +kernel
theorem dX10_arrives_161 : decode cX10_arrives 161 = .ok (.iload 4, 2) := by decide +kernel
theorem dX10_arrives_163 : decode cX10_arrives 163 = .ok (.iload 7, 2) := by decide +kernel
theorem dX10_arrives_165 : decode cX10_arrives 165 = .ok (.iastore, 1) := by decide +kernel
theorem dX10_arrives_166 : decode cX10_arrives 166 = .ok (.aload_n 0, 1) := by decide +kernel
theorem dX10_arrives_167 : decode cX10_arrives 167 = .ok (.getfield 34, 3) := by decide +kernel
theorem dX10_arrives_170 : decode cX10_arrives 170 = .ok (.iload 4, 2) := by decide +kernel
theorem dX10_arrives_172 : decode cX10_arrives 172 = .ok (.iconst 0, 1) := by decide +kernel
theorem dX10_arrives_173 : decode cX10_arrives 173 = .ok (.iastore, 1) := by decide +kernel
theorem dX10_arrives_174 : decode cX10_arrives 174 = .ok (.iconst (-1), 1) := by decide +kernel
theorem dX10_arrives_175 : decode cX10_arrives 175 = .ok (.ireturn, 1) := by decide +kernel
theorem dX10_atHand_0 : decode cX10_atHand 0 = .ok (.aload_n 0, 1) := by decide +kernel
theorem dX10_atHand_1 : decode cX10_atHand 1 = .ok (.getfield 28, 3) := by decide +kernel
theorem dX10_atHand_4 : decode cX10_atHand 4 = .ok (.bipush 40, 2) := by decide +kernel
theorem dX10_atHand_6 : decode cX10_atHand 6 = .ok (.aload_n 0, 1) := by decide +kernel
theorem dX10_atHand_7 : decode cX10_atHand 7 = .ok (.getfield 119, 3) := by decide +kernel
theorem dX10_atHand_10 : decode cX10_atHand 10 = .ok (.imul, 1) := by decide +kernel
theorem dX10_atHand_11 : decode cX10_atHand 11 = .ok (.aload_n 0, 1) := by decide +kernel
theorem dX10_atHand_12 : decode cX10_atHand 12 = .ok (.getfield 34, 3) := by decide +kernel
theorem dX10_atHand_15 : decode cX10_atHand 15 = .ok (.aload_n 0, 1) := by decide +kernel
theorem dX10_atHand_16 : decode cX10_atHand 16 = .ok (.getfield 119, 3) := by decide +kernel
theorem dX10_atHand_19 : decode cX10_atHand 19 = .ok (.iaload, 1) := by decide +kernel
theorem dX10_atHand_20 : decode cX10_atHand 20 = .ok (.iadd, 1) := by decide +kernel
theorem dX10_atHand_21 : decode cX10_atHand 21 = .ok (.iaload, 1) := by decide +kernel
theorem dX10_atHand_22 : decode cX10_atHand 22 = .ok (.ireturn, 1) := by decide +kernel
theorem dX10_tries_0 : decode cX10_tries 0 = .ok (.aload_n 0, 1) := by decide +kernel
theorem dX10_tries_1 : decode cX10_tries 1 = .ok (.invokevirtual 129, 3) := by decide +kernel
theorem dX10_tries_4 : decode cX10_tries 4 = .ok (.istore_n 2, 1) := by decide +kernel
theorem dX10_tries_5 : decode cX10_tries 5 = .ok (.aload_n 0, 1) := by decide +kernel
theorem dX10_tries_6 : decode cX10_tries 6 = .ok (.getfield 37, 3) := by decide +kernel
theorem dX10_tries_9 : decode cX10_tries 9 = .ok (.aload_n 0, 1) := by decide +kernel
theorem dX10_tries_10 : decode cX10_tries 10 = .ok (.getfield 119, 3) := by decide +kernel
theorem dX10_tries_13 : decode cX10_tries 13 = .ok (.aload_n 0, 1) := by decide +kernel
theorem dX10_tries_14 : decode cX10_tries 14 = .ok (.getfield 133, 3) := by decide +kernel
theorem dX10_tries_17 : decode cX10_tries 17 = .ok (.iastore, 1) := by decide +kernel
theorem dX10_tries_18 : decode cX10_tries 18 = .ok (.aload_n 0, 1) := by decide +kernel
theorem dX10_tries_19 : decode cX10_tries 19 = .ok (.getfield 40, 3) := by decide +kernel
theorem dX10_tries_22 : decode cX10_tries 22 = .ok (.aload_n 0, 1) := by decide +kernel
theorem dX10_tries_23 : decode cX10_tries 23 = .ok (.getfield 133, 3) := by decide +kernel
theorem dX10_tries_26 : decode cX10_tries 26 = .ok (.iload_n 2, 1) := by decide +kernel
theorem dX10_tries_27 : decode cX10_tries 27 = .ok (.iastore, 1) := by decide +kernel
theorem dX10_tries_28 : decode cX10_tries 28 = .ok (.aload_n 0, 1) := by decide +kernel
theorem dX10_tries_29 : decode cX10_tries 29 = .ok (.dup, 1) := by decide +kernel
theorem dX10_tries_30 : decode cX10_tries 30 = .ok (.getfield 133, 3) := by decide +kernel
theorem dX10_tries_33 : decode cX10_tries 33 = .ok (.iconst 1, 1) := by decide +kernel
theorem dX10_tries_34 : decode cX10_tries 34 = .ok (.iadd, 1) := by decide +kernel
theorem dX10_tries_35 : decode cX10_tries 35 = .ok (.putfield 133, 3) := by decide +kernel
end
section
theorem dX10_tries_38 : decode cX10_tries 38 = .ok (.aload_n 0, 1) := by decide +kernel
theorem dX10_tries_39 : decode cX10_tries 39 = .ok (.iload_n 2, 1) := by decide +kernel
theorem dX10_tries_40 : decode cX10_tries 40 = .ok (.invokevirtual 75, 3) := by decide +kernel
theorem dX10_tries_43 : decode cX10_tries 43 = .ok (.ifCond .eq 17, 3) := by decide +kernel
theorem dX10_tries_46 : decode cX10_tries 46 = .ok (.aload_n 0, 1) := by decide +kernel
theorem dX10_tries_47 : decode cX10_tries 47 = .ok (.iload_n 1, 1) := by decide +kernel
theorem dX10_tries_48 : decode cX10_tries 48 = .ok (.invokevirtual 136, 3) := by decide +kernel
theorem dX10_tries_51 : decode cX10_tries 51 = .ok (.ifCond .eq 7, 3) := by decide +kernel
theorem dX10_tries_54 : decode cX10_tries 54 = .ok (.iconst 5, 1) := by decide +kernel
theorem dX10_tries_55 : decode cX10_tries 55 = .ok (.goto 4, 3) := by decide +kernel
theorem dX10_tries_58 : decode cX10_tries 58 = .ok (.iconst 0, 1) := by decide +kernel
theorem dX10_tries_59 : decode cX10_tries 59 = .ok (.ireturn, 1) := by decide +kernel
theorem dX10_tries_60 : decode cX10_tries 60 = .ok (.aload_n 0, 1) := by decide +kernel
theorem dX10_tries_61 : decode cX10_tries 61 = .ok (.iload_n 2, 1) := by decide +kernel
theorem dX10_tries_62 : decode cX10_tries 62 = .ok (.bipush 7, 2) := by decide +kernel
theorem dX10_tries_64 : decode cX10_tries 64 = .ok (.invokevirtual 71, 3) := by decide +kernel
theorem dX10_tries_67 : decode cX10_tries 67 = .ok (.aload_n 0, 1) := by decide +kernel
theorem dX10_tries_68 : decode cX10_tries 68 = .ok (.iload_n 2, 1) := by decide +kernel
theorem dX10_tries_69 : decode cX10_tries 69 = .ok (.bipush 6, 2) := by decide +kernel
theorem dX10_tries_71 : decode cX10_tries 71 = .ok (.invokevirtual 71, 3) := by decide +kernel
theorem dX10_tries_74 : decode cX10_tries 74 = .ok (.if_icmp .ne 5, 3) := by decide +kernel
theorem dX10_tries_77 : decode cX10_tries 77 = .ok (.iconst 2, 1) := by decide +kernel
theorem dX10_tries_78 : decode cX10_tries 78 = .ok (.ireturn, 1) := by decide +kernel
theorem dX10_tries_79 : decode cX10_tries 79 = .ok (.aload_n 0, 1) := by decide +kernel
theorem dX10_tries_80 : decode cX10_tries 80 = .ok (.getfield 7, 3) := by decide +kernel
theorem dX10_tries_83 : decode cX10_tries 83 = .ok (.bipush 30, 2) := by decide +kernel
theorem dX10_tries_85 : decode cX10_tries 85 = .ok (.bipush 8, 2) := by decide +kernel
theorem dX10_tries_87 : decode cX10_tries 87 = .ok (.iload_n 2, 1) := by decide +kernel
theorem dX10_tries_88 : decode cX10_tries 88 = .ok (.imul, 1) := by decide +kernel
theorem dX10_tries_89 : decode cX10_tries 89 = .ok (.iadd, 1) := by decide +kernel
theorem dX10_tries_90 : decode cX10_tries 90 = .ok (.bipush 7, 2) := by decide +kernel
theorem dX10_tries_92 : decode cX10_tries 92 = .ok (.iadd, 1) := by decide +kernel
theorem dX10_tries_93 : decode cX10_tries 93 = .ok (.dup2, 1) := by decide +kernel
theorem dX10_tries_94 : decode cX10_tries 94 = .ok (.iaload, 1) := by decide +kernel
theorem dX10_tries_95 : decode cX10_tries 95 = .ok (.iconst 1, 1) := by decide +kernel
theorem dX10_tries_96 : decode cX10_tries 96 = .ok (.iadd, 1) := by decide +kernel
theorem dX10_tries_97 : decode cX10_tries 97 = .ok (.iastore, 1) := by decide +kernel
theorem dX10_tries_98 : decode cX10_tries 98 = .ok (.aload_n 0, 1) := by decide +kernel
theorem dX10_tries_99 : decode cX10_tries 99 = .ok (.getfield 119, 3) := by decide +kernel
theorem dX10_tries_102 : decode cX10_tries 102 = .ok (.istore_n 3, 1) := by decide +kernel
theorem dX10_tries_103 : decode cX10_tries 103 = .ok (.aload_n 0, 1) := by decide +kernel
theorem dX10_tries_104 : decode cX10_tries 104 = .ok (.aload_n 0, 1) := by decide +kernel
theorem dX10_tries_105 : decode cX10_tries 105 = .ok (.iload_n 2, 1) := by decide +kernel
theorem dX10_tries_106 : decode cX10_tries 106 = .ok (.iconst 2, 1) := by decide +kernel
theorem dX10_tries_107 : decode cX10_tries 107 = .ok (.invokevirtual 71, 3) := by decide +kernel
theorem dX10_tries_110 : decode cX10_tries 110 = .ok (.iload_n 1, 1) := by decide +kernel
theorem dX10_tries_111 : decode cX10_tries 111 = .ok (.aload_n 0, 1) := by decide +kernel
theorem dX10_tries_112 : decode cX10_tries 112 = .ok (.getfield 25, 3) := by decide +kernel
theorem dX10_tries_115 : decode cX10_tries 115 = .ok (.aload_n 0, 1) := by decide +kernel
theorem dX10_tries_116 : decode cX10_tries 116 = .ok (.getfield 119, 3) := by decide +kernel
theorem dX10_tries_119 : decode cX10_tries 119 = .ok (.iaload, 1) := by decide +kernel
theorem dX10_tries_120 : decode cX10_tries 120 = .ok (.invokevirtual 139, 3) := by decide +kernel
theorem dX10_tries_123 : decode cX10_tries 123 = .ok (.istore 4, 2) := by decide +kernel
theorem dX10_tries_125 : decode cX10_tries 125 = .ok (.iload 4, 2) := by decide +kernel
theorem dX10_tries_127 : decode cX10_tries 127 = .ok (.ifCond .ne 15, 3) := by decide +kernel
theorem dX10_tries_130 : decode cX10_tries 130 = .ok (.aload_n 0, 1) := by decide +kernel
theorem dX10_tries_131 : decode cX10_tries 131 = .ok (.iload_n 1, 1) := by decide +kernel
theorem dX10_tries_132 : decode cX10_tries 132 = .ok (.invokevirtual 136, 3) := by decide +kernel
theorem dX10_tries_135 : decode cX10_tries 135 = .ok (.ifCond .eq 7, 3) := by decide +kernel
theorem dX10_tries_138 : decode cX10_tries 138 = .ok (.iconst 5, 1) := by decide +kernel
theorem dX10_tries_139 : decode cX10_tries 139 = .ok (.goto 5, 3) := by decide +kernel
theorem dX10_tries_142 : decode cX10_tries 142 = .ok (.iload 4, 2) := by decide +kernel
theorem dX10_tries_144 : decode cX10_tries 144 = .ok (.istore 4, 2) := by decide +kernel
theorem dX10_tries_146 : decode cX10_tries 146 = .ok (.iload 4, 2) := by decide +kernel
theorem dX10_tries_148 : decode cX10_tries 148 = .ok (.ifCond .le 22, 3) := by decide +kernel
theorem dX10_tries_151 : decode cX10_tries 151 = .ok (.aload_n 0, 1) := by decide +kernel
theorem dX10_tries_152 : decode cX10_tries 152 = .ok (.getfield 7, 3) := by decide +kernel
theorem dX10_tries_155 : decode cX10_tries 155 = .ok (.bipush 30, 2) := by decide +kernel
theorem dX10_tries_157 : decode cX10_tries 157 = .ok (.bipush 8, 2) := by decide +kernel
theorem dX10_tries_159 : decode cX10_tries 159 = .ok (.iload_n 2, 1) := by decide +kernel
theorem dX10_tries_160 : decode cX10_tries 160 = .ok (.imul, 1) := by decide +kernel
theorem dX10_tries_161 : decode cX10_tries 161 = .ok (.iadd, 1) := by decide +kernel
theorem dX10_tries_162 : decode cX10_tries 162 = .ok (.bipush 7, 2) := by decide +kernel
theorem dX10_tries_164 : decode cX10_tries 164 = .ok (.iadd, 1) := by decide +kernel
theorem dX10_tries_165 : decode cX10_tries 165 = .ok (.dup2, 1) := by decide +kernel
theorem dX10_tries_166 : decode cX10_tries 166 = .ok (.iaload, 1) := by decide +kernel
theorem dX10_tries_167 : decode cX10_tries 167 = .ok (.iconst 1, 1) := by decide +kernel
theorem dX10_tries_168 : decode cX10_tries 168 = .ok (.isub, 1) := by decide +kernel
theorem dX10_tries_169 : decode cX10_tries 169 = .ok (.iastore, 1) := by decide +kernel
theorem dX10_tries_170 : decode cX10_tries 170 = .ok (.iload 4, 2) := by decide +kernel
theorem dX10_tries_172 : decode cX10_tries 172 = .ok (.ireturn, 1) := by decide +kernel
theorem dX10_settles_0 : decode cX10_settles 0 = .ok (.aload_n 0, 1) := by decide +kernel
theorem dX10_settles_1 : decode cX10_settles 1 = .ok (.getfield 43, 3) := by decide +kernel
theorem dX10_settles_4 : decode cX10_settles 4 = .ok (.aload_n 0, 1) := by decide +kernel
theorem dX10_settles_5 : decode cX10_settles 5 = .ok (.getfield 37, 3) := by decide +kernel
theorem dX10_settles_8 : decode cX10_settles 8 = .ok (.aload_n 0, 1) := by decide +kernel
theorem dX10_settles_9 : decode cX10_settles 9 = .ok (.getfield 119, 3) := by decide +kernel
theorem dX10_settles_12 : decode cX10_settles 12 = .ok (.iaload, 1) := by decide +kernel
theorem dX10_settles_13 : decode cX10_settles 13 = .ok (.iload_n 1, 1) := by decide +kernel
theorem dX10_settles_14 : decode cX10_settles 14 = .ok (.iastore, 1) := by decide +kernel
theorem dX10_settles_15 : decode cX10_settles 15 = .ok (.aload_n 0, 1) := by decide +kernel
theorem dX10_settles_16 : decode cX10_settles 16 = .ok (.getfield 34, 3) := by decide +kernel
theorem dX10_settles_19 : decode cX10_settles 19 = .ok (.aload_n 0, 1) := by decide +kernel
theorem dX10_settles_20 : decode cX10_settles 20 = .ok (.getfield 119, 3) := by decide +kernel
theorem dX10_settles_23 : decode cX10_settles 23 = .ok (.iaload, 1) := by decide +kernel
theorem dX10_settles_24 : decode cX10_settles 24 = .ok (.aload_n 0, 1) := by decide +kernel
theorem dX10_settles_25 : decode cX10_settles 25 = .ok (.getfield 31, 3) := by decide +kernel
theorem dX10_settles_28 : decode cX10_settles 28 = .ok (.aload_n 0, 1) := by decide +kernel
theorem dX10_settles_29 : decode cX10_settles 29 = .ok (.getfield 119, 3) := by decide +kernel
theorem dX10_settles_32 : decode cX10_settles 32 = .ok (.iaload, 1) := by decide +kernel
theorem dX10_settles_33 : decode cX10_settles 33 = .ok (.iconst 1, 1) := by decide +kernel
theorem dX10_settles_34 : decode cX10_settles 34 = .ok (.isub, 1) := by decide +kernel
theorem dX10_settles_35 : decode cX10_settles 35 = .ok (.if_icmp .ne 7, 3) := by decide +kernel
theorem dX10_settles_38 : decode cX10_settles 38 = .ok (.iconst 1, 1) := by decide +kernel
theorem dX10_settles_39 : decode cX10_settles 39 = .ok (.goto 4, 3) := by decide +kernel
theorem dX10_settles_42 : decode cX10_settles 42 = .ok (.iconst 0, 1) := by decide +kernel
theorem dX10_settles_43 : decode cX10_settles 43 = .ok (.istore_n 2, 1) := by decide +kernel
theorem dX10_settles_44 : decode cX10_settles 44 = .ok (.aload_n 0, 1) := by decide +kernel
theorem dX10_settles_45 : decode cX10_settles 45 = .ok (.getfield 7, 3) := by decide +kernel
theorem dX10_settles_48 : decode cX10_settles 48 = .ok (.bipush 18, 2) := by decide +kernel
theorem dX10_settles_50 : decode cX10_settles 50 = .ok (.aload_n 0, 1) := by decide +kernel
theorem dX10_settles_51 : decode cX10_settles 51 = .ok (.getfield 22, 3) := by decide +kernel
theorem dX10_settles_54 : decode cX10_settles 54 = .ok (.aload_n 0, 1) := by decide +kernel
theorem dX10_settles_55 : decode cX10_settles 55 = .ok (.getfield 119, 3) := by decide +kernel
theorem dX10_settles_58 : decode cX10_settles 58 = .ok (.iaload, 1) := by decide +kernel
theorem dX10_settles_59 : decode cX10_settles 59 = .ok (.iadd, 1) := by decide +kernel
theorem dX10_settles_60 : decode cX10_settles 60 = .ok (.iaload, 1) := by decide +kernel
theorem dX10_settles_61 : decode cX10_settles 61 = .ok (.iload_n 1, 1) := by decide +kernel
theorem dX10_settles_62 : decode cX10_settles 62 = .ok (.ishr, 1) := by decide +kernel
theorem dX10_settles_63 : decode cX10_settles 63 = .ok (.iconst 1, 1) := by decide +kernel
theorem dX10_settles_64 : decode cX10_settles 64 = .ok (.iand, 1) := by decide +kernel
theorem dX10_settles_65 : decode cX10_settles 65 = .ok (.iconst 1, 1) := by decide +kernel
theorem dX10_settles_66 : decode cX10_settles 66 = .ok (.if_icmp .ne 7, 3) := by decide +kernel
theorem dX10_settles_69 : decode cX10_settles 69 = .ok (.iconst 1, 1) := by decide +kernel
theorem dX10_settles_70 : decode cX10_settles 70 = .ok (.goto 4, 3) := by decide +kernel
theorem dX10_settles_73 : decode cX10_settles 73 = .ok (.iconst 0, 1) := by decide +kernel
theorem dX10_settles_74 : decode cX10_settles 74 = .ok (.istore_n 3, 1) := by decide +kernel
theorem dX10_settles_75 : decode cX10_settles 75 = .ok (.iload_n 1, 1) := by decide +kernel
theorem dX10_settles_76 : decode cX10_settles 76 = .ok (.ifCond .eq 17, 3) := by decide +kernel
theorem dX10_settles_79 : decode cX10_settles 79 = .ok (.iload_n 1, 1) := by decide +kernel
theorem dX10_settles_80 : decode cX10_settles 80 = .ok (.bipush 6, 2) := by decide +kernel
theorem dX10_settles_82 : decode cX10_settles 82 = .ok (.if_icmp .eq 11, 3) := by decide +kernel
theorem dX10_settles_85 : decode cX10_settles 85 = .ok (.iload_n 3, 1) := by decide +kernel
theorem dX10_settles_86 : decode cX10_settles 86 = .ok (.ifCond .eq 7, 3) := by decide +kernel
theorem dX10_settles_89 : decode cX10_settles 89 = .ok (.iload_n 2, 1) := by decide +kernel
theorem dX10_settles_90 : decode cX10_settles 90 = .ok (.ifCond .eq 5, 3) := by decide +kernel
theorem dX10_settles_93 : decode cX10_settles 93 = .ok (.iload_n 1, 1) := by decide +kernel
theorem dX10_settles_94 : decode cX10_settles 94 = .ok (.ireturn, 1) := by decide +kernel
theorem dX10_settles_95 : decode cX10_settles 95 = .ok (.aload_n 0, 1) := by decide +kernel
theorem dX10_settles_96 : decode cX10_settles 96 = .ok (.getfield 34, 3) := by decide +kernel
theorem dX10_settles_99 : decode cX10_settles 99 = .ok (.aload_n 0, 1) := by decide +kernel
theorem dX10_settles_100 : decode cX10_settles 100 = .ok (.getfield 119, 3) := by decide +kernel
theorem dX10_settles_103 : decode cX10_settles 103 = .ok (.dup2, 1) := by decide +kernel
theorem dX10_settles_104 : decode cX10_settles 104 = .ok (.iaload, 1) := by decide +kernel
theorem dX10_settles_105 : decode cX10_settles 105 = .ok (.iconst 1, 1) := by decide +kernel
theorem dX10_settles_106 : decode cX10_settles 106 = .ok (.iadd, 1) := by decide +kernel
theorem dX10_settles_107 : decode cX10_settles 107 = .ok (.iastore, 1) := by decide +kernel
theorem dX10_settles_108 : decode cX10_settles 108 = .ok (.iconst (-1), 1) := by decide +kernel
theorem dX10_settles_109 : decode cX10_settles 109 = .ok (.ireturn, 1) := by decide +kernel
theorem dX10_places_0 : decode cX10_places 0 = .ok (.aload_n 0, 1) := by decide +kernel
theorem dX10_places_1 : decode cX10_places 1 = .ok (.iconst (-1), 1) := by decide +kernel
theorem dX10_places_2 : decode cX10_places 2 = .ok (.putfield 119, 3) := by decide +kernel
theorem dX10_places_5 : decode cX10_places 5 = .ok (.aload_n 0, 1) := by decide +kernel
theorem dX10_places_6 : decode cX10_places 6 = .ok (.iconst 0, 1) := by decide +kernel
theorem dX10_places_7 : decode cX10_places 7 = .ok (.putfield 133, 3) := by decide +kernel
theorem dX10_places_10 : decode cX10_places 10 = .ok (.aload_n 0, 1) := by decide +kernel
theorem dX10_places_11 : decode cX10_places 11 = .ok (.iload_n 1, 1) := by decide +kernel
theorem dX10_places_12 : decode cX10_places 12 = .ok (.iload_n 2, 1) := by decide +kernel
theorem dX10_places_13 : decode cX10_places 13 = .ok (.iconst (-1), 1) := by decide +kernel
theorem dX10_places_14 : decode cX10_places 14 = .ok (.invokevirtual 139, 3) := by decide +kernel
theorem dX10_places_17 : decode cX10_places 17 = .ok (.istore_n 3, 1) := by decide +kernel
theorem dX10_places_18 : decode cX10_places 18 = .ok (.iload_n 3, 1) := by decide +kernel
theorem dX10_places_19 : decode cX10_places 19 = .ok (.ifCond .ne 15, 3) := by decide +kernel
theorem dX10_places_22 : decode cX10_places 22 = .ok (.aload_n 0, 1) := by decide +kernel
theorem dX10_places_23 : decode cX10_places 23 = .ok (.iload_n 2, 1) := by decide +kernel
theorem dX10_places_24 : decode cX10_places 24 = .ok (.invokevirtual 136, 3) := by decide +kernel
theorem dX10_places_27 : decode cX10_places 27 = .ok (.ifCond .eq 7, 3) := by decide +kernel
theorem dX10_places_30 : decode cX10_places 30 = .ok (.iconst 5, 1) := by decide +kernel
theorem dX10_places_31 : decode cX10_places 31 = .ok (.goto 4, 3) := by decide +kernel
theorem dX10_places_34 : decode cX10_places 34 = .ok (.iload_n 3, 1) := by decide +kernel
theorem dX10_places_35 : decode cX10_places 35 = .ok (.istore_n 3, 1) := by decide +kernel
theorem dX10_places_36 : decode cX10_places 36 = .ok (.aload_n 0, 1) := by decide +kernel
theorem dX10_places_37 : decode cX10_places 37 = .ok (.getfield 119, 3) := by decide +kernel
theorem dX10_places_40 : decode cX10_places 40 = .ok (.ifCond .lt 119, 3) := by decide +kernel
theorem dX10_places_43 : decode cX10_places 43 = .ok (.iload_n 3, 1) := by decide +kernel
theorem dX10_places_44 : decode cX10_places 44 = .ok (.iconst (-1), 1) := by decide +kernel
theorem dX10_places_45 : decode cX10_places 45 = .ok (.if_icmp .ne 79, 3) := by decide +kernel
theorem dX10_places_48 : decode cX10_places 48 = .ok (.aload_n 0, 1) := by decide +kernel
theorem dX10_places_49 : decode cX10_places 49 = .ok (.getfield 133, 3) := by decide +kernel
theorem dX10_places_52 : decode cX10_places 52 = .ok (.bipush 30, 2) := by decide +kernel
theorem dX10_places_54 : decode cX10_places 54 = .ok (.if_icmp .ne 7, 3) := by decide +kernel
theorem dX10_places_57 : decode cX10_places 57 = .ok (.iconst 1, 1) := by decide +kernel
theorem dX10_places_58 : decode cX10_places 58 = .ok (.goto 4, 3) := by decide +kernel
theorem dX10_places_61 : decode cX10_places 61 = .ok (.iconst 0, 1) := by decide +kernel
theorem dX10_places_62 : decode cX10_places 62 = .ok (.istore 4, 2) := by decide +kernel
theorem dX10_places_64 : decode cX10_places 64 = .ok (.iload 4, 2) := by decide +kernel
theorem dX10_places_66 : decode cX10_places 66 = .ok (.ifCond .eq 8, 3) := by decide +kernel
theorem dX10_places_69 : decode cX10_places 69 = .ok (.bipush 6, 2) := by decide +kernel
theorem dX10_places_71 : decode cX10_places 71 = .ok (.goto 8, 3) := by decide +kernel
theorem dX10_places_74 : decode cX10_places 74 = .ok (.aload_n 0, 1) := by decide +kernel
theorem dX10_places_75 : decode cX10_places 75 = .ok (.iload_n 2, 1) := by decide +kernel
theorem dX10_places_76 : decode cX10_places 76 = .ok (.invokevirtual 143, 3) := by decide +kernel
theorem dX10_places_79 : decode cX10_places 79 = .ok (.istore_n 3, 1) := by decide +kernel
theorem dX10_places_80 : decode cX10_places 80 = .ok (.iload 4, 2) := by decide +kernel
theorem dX10_places_82 : decode cX10_places 82 = .ok (.ifCond .eq 28, 3) := by decide +kernel
theorem dX10_places_85 : decode cX10_places 85 = .ok (.aload_n 0, 1) := by decide +kernel
theorem dX10_places_86 : decode cX10_places 86 = .ok (.iload_n 3, 1) := by decide +kernel
theorem dX10_places_87 : decode cX10_places 87 = .ok (.invokevirtual 145, 3) := by decide +kernel
theorem dX10_places_90 : decode cX10_places 90 = .ok (.aload_n 0, 1) := by decide +kernel
theorem dX10_places_91 : decode cX10_places 91 = .ok (.getfield 119, 3) := by decide +kernel
theorem dX10_places_94 : decode cX10_places 94 = .ok (.ifCond .ge 7, 3) := by decide +kernel
theorem dX10_places_97 : decode cX10_places 97 = .ok (.iload_n 3, 1) := by decide +kernel
theorem dX10_places_98 : decode cX10_places 98 = .ok (.goto 8, 3) := by decide +kernel
theorem dX10_places_101 : decode cX10_places 101 = .ok (.aload_n 0, 1) := by decide +kernel
theorem dX10_places_102 : decode cX10_places 102 = .ok (.iload_n 3, 1) := by decide +kernel
theorem dX10_places_103 : decode cX10_places 103 = .ok (.invokevirtual 148, 3) := by decide +kernel
theorem dX10_places_106 : decode cX10_places 106 = .ok (.istore_n 3, 1) := by decide +kernel
theorem dX10_places_107 : decode cX10_places 107 = .ok (.goto 14, 3) := by decide +kernel
theorem dX10_places_110 : decode cX10_places 110 = .ok (.iload_n 3, 1) := by decide +kernel
theorem dX10_places_111 : decode cX10_places 111 = .ok (.iconst (-1), 1) := by decide +kernel
theorem dX10_places_112 : decode cX10_places 112 = .ok (.if_icmp .eq 9, 3) := by decide +kernel
theorem dX10_places_115 : decode cX10_places 115 = .ok (.aload_n 0, 1) := by decide +kernel
theorem dX10_places_116 : decode cX10_places 116 = .ok (.iload_n 3, 1) := by decide +kernel
theorem dX10_places_117 : decode cX10_places 117 = .ok (.invokevirtual 148, 3) := by decide +kernel
theorem dX10_places_120 : decode cX10_places 120 = .ok (.istore_n 3, 1) := by decide +kernel
theorem dX10_places_121 : decode cX10_places 121 = .ok (.goto (-85), 3) := by decide +kernel
theorem dX10_places_124 : decode cX10_places 124 = .ok (.iload_n 3, 1) := by decide +kernel
theorem dX10_places_125 : decode cX10_places 125 = .ok (.ifCond .ne 9, 3) := by decide +kernel
theorem dX10_places_128 : decode cX10_places 128 = .ok (.aload_n 0, 1) := by decide +kernel
theorem dX10_places_129 : decode cX10_places 129 = .ok (.invokevirtual 151, 3) := by decide +kernel
theorem dX10_places_132 : decode cX10_places 132 = .ok (.iconst 0, 1) := by decide +kernel
theorem dX10_places_133 : decode cX10_places 133 = .ok (.ireturn, 1) := by decide +kernel
theorem dX10_places_134 : decode cX10_places 134 = .ok (.aload_n 0, 1) := by decide +kernel
theorem dX10_places_135 : decode cX10_places 135 = .ok (.iload_n 3, 1) := by decide +kernel
theorem dX10_places_136 : decode cX10_places 136 = .ok (.invokevirtual 145, 3) := by decide +kernel
theorem dX10_places_139 : decode cX10_places 139 = .ok (.aload_n 0, 1) := by decide +kernel
theorem dX10_places_140 : decode cX10_places 140 = .ok (.getfield 119, 3) := by decide +kernel
theorem dX10_places_143 : decode cX10_places 143 = .ok (.ifCond .ge 7, 3) := by decide +kernel
theorem dX10_places_146 : decode cX10_places 146 = .ok (.iload_n 3, 1) := by decide +kernel
theorem dX10_places_147 : decode cX10_places 147 = .ok (.goto 8, 3) := by decide +kernel
theorem dX10_places_150 : decode cX10_places 150 = .ok (.aload_n 0, 1) := by decide +kernel
theorem dX10_places_151 : decode cX10_places 151 = .ok (.iload_n 3, 1) := by decide +kernel
theorem dX10_places_152 : decode cX10_places 152 = .ok (.invokevirtual 148, 3) := by decide +kernel
theorem dX10_places_155 : decode cX10_places 155 = .ok (.istore_n 3, 1) := by decide +kernel
theorem dX10_places_156 : decode cX10_places 156 = .ok (.goto (-120), 3) := by decide +kernel
theorem dX10_places_159 : decode cX10_places 159 = .ok (.aload_n 0, 1) := by decide +kernel
theorem dX10_places_160 : decode cX10_places 160 = .ok (.iconst 0, 1) := by decide +kernel
theorem dX10_places_161 : decode cX10_places 161 = .ok (.putfield 154, 3) := by decide +kernel
theorem dX10_places_164 : decode cX10_places 164 = .ok (.iload_n 3, 1) := by decide +kernel
theorem dX10_places_165 : decode cX10_places 165 = .ok (.ireturn, 1) := by decide +kernel
theorem dX10_leaves_0 : decode cX10_leaves 0 = .ok (.aload_n 0, 1) := by decide +kernel
theorem dX10_leaves_1 : decode cX10_leaves 1 = .ok (.dup, 1) := by decide +kernel
theorem dX10_leaves_2 : decode cX10_leaves 2 = .ok (.getfield 119, 3) := by decide +kernel
theorem dX10_leaves_5 : decode cX10_leaves 5 = .ok (.iconst 1, 1) := by decide +kernel
theorem dX10_leaves_6 : decode cX10_leaves 6 = .ok (.isub, 1) := by decide +kernel
theorem dX10_leaves_7 : decode cX10_leaves 7 = .ok (.putfield 119, 3) := by decide +kernel
theorem dX10_leaves_10 : decode cX10_leaves 10 = .ok (.aload_n 0, 1) := by decide +kernel
theorem dX10_leaves_11 : decode cX10_leaves 11 = .ok (.getfield 119, 3) := by decide +kernel
theorem dX10_leaves_14 : decode cX10_leaves 14 = .ok (.ifCond .lt 25, 3) := by decide +kernel
theorem dX10_leaves_17 : decode cX10_leaves 17 = .ok (.aload_n 0, 1) := by decide +kernel
theorem dX10_leaves_18 : decode cX10_leaves 18 = .ok (.getfield 7, 3) := by decide +kernel
theorem dX10_leaves_21 : decode cX10_leaves 21 = .ok (.bipush 30, 2) := by decide +kernel
theorem dX10_leaves_23 : decode cX10_leaves 23 = .ok (.bipush 8, 2) := by decide +kernel
theorem dX10_leaves_25 : decode cX10_leaves 25 = .ok (.aload_n 0, 1) := by decide +kernel
theorem dX10_leaves_26 : decode cX10_leaves 26 = .ok (.invokevirtual 129, 3) := by decide +kernel
theorem dX10_leaves_29 : decode cX10_leaves 29 = .ok (.imul, 1) := by decide +kernel
theorem dX10_leaves_30 : decode cX10_leaves 30 = .ok (.iadd, 1) := by decide +kernel
theorem dX10_leaves_31 : decode cX10_leaves 31 = .ok (.bipush 7, 2) := by decide +kernel
theorem dX10_leaves_33 : decode cX10_leaves 33 = .ok (.iadd, 1) := by decide +kernel
theorem dX10_leaves_34 : decode cX10_leaves 34 = .ok (.dup2, 1) := by decide +kernel
theorem dX10_leaves_35 : decode cX10_leaves 35 = .ok (.iaload, 1) := by decide +kernel
theorem dX10_leaves_36 : decode cX10_leaves 36 = .ok (.iconst 1, 1) := by decide +kernel
theorem dX10_leaves_37 : decode cX10_leaves 37 = .ok (.isub, 1) := by decide +kernel
theorem dX10_leaves_38 : decode cX10_leaves 38 = .ok (.iastore, 1) := by decide +kernel
theorem dX10_leaves_39 : decode cX10_leaves 39 = .ok (.return_, 1) := by decide +kernel
theorem dX10_connects_0 : decode cX10_connects 0 = .ok (.aload_n 0, 1) := by decide +kernel
theorem dX10_connects_1 : decode cX10_connects 1 = .ok (.iconst 0, 1) := by decide +kernel
theorem dX10_connects_2 : decode cX10_connects 2 = .ok (.putfield 154, 3) := by decide +kernel
theorem dX10_connects_5 : decode cX10_connects 5 = .ok (.aload_n 0, 1) := by decide +kernel
theorem dX10_connects_6 : decode cX10_connects 6 = .ok (.getfield 119, 3) := by decide +kernel
theorem dX10_connects_9 : decode cX10_connects 9 = .ok (.istore_n 1, 1) := by decide +kernel
theorem dX10_connects_10 : decode cX10_connects 10 = .ok (.aload_n 0, 1) := by decide +kernel
theorem dX10_connects_11 : decode cX10_connects 11 = .ok (.iconst 0, 1) := by decide +kernel
theorem dX10_connects_12 : decode cX10_connects 12 = .ok (.putfield 119, 3) := by decide +kernel
theorem dX10_connects_15 : decode cX10_connects 15 = .ok (.aload_n 0, 1) := by decide +kernel
theorem dX10_connects_16 : decode cX10_connects 16 = .ok (.getfield 119, 3) := by decide +kernel
theorem dX10_connects_19 : decode cX10_connects 19 = .ok (.iload_n 1, 1) := by decide +kernel
theorem dX10_connects_20 : decode cX10_connects 20 = .ok (.if_icmp .gt 54, 3) := by decide +kernel
theorem dX10_connects_23 : decode cX10_connects 23 = .ok (.aload_n 0, 1) := by decide +kernel
theorem dX10_connects_24 : decode cX10_connects 24 = .ok (.getfield 46, 3) := by decide +kernel
theorem dX10_connects_27 : decode cX10_connects 27 = .ok (.aload_n 0, 1) := by decide +kernel
theorem dX10_connects_28 : decode cX10_connects 28 = .ok (.getfield 154, 3) := by decide +kernel
theorem dX10_connects_31 : decode cX10_connects 31 = .ok (.aload_n 0, 1) := by decide +kernel
theorem dX10_connects_32 : decode cX10_connects 32 = .ok (.invokevirtual 129, 3) := by decide +kernel
theorem dX10_connects_35 : decode cX10_connects 35 = .ok (.iastore, 1) := by decide +kernel
theorem dX10_connects_36 : decode cX10_connects 36 = .ok (.aload_n 0, 1) := by decide +kernel
theorem dX10_connects_37 : decode cX10_connects 37 = .ok (.getfield 43, 3) := by decide +kernel
theorem dX10_connects_40 : decode cX10_connects 40 = .ok (.aload_n 0, 1) := by decide +kernel
theorem dX10_connects_41 : decode cX10_connects 41 = .ok (.getfield 37, 3) := by decide +kernel
theorem dX10_connects_44 : decode cX10_connects 44 = .ok (.aload_n 0, 1) := by decide +kernel
theorem dX10_connects_45 : decode cX10_connects 45 = .ok (.getfield 119, 3) := by decide +kernel
theorem dX10_connects_48 : decode cX10_connects 48 = .ok (.iaload, 1) := by decide +kernel
theorem dX10_connects_49 : decode cX10_connects 49 = .ok (.iconst 0, 1) := by decide +kernel
theorem dX10_connects_50 : decode cX10_connects 50 = .ok (.iastore, 1) := by decide +kernel
theorem dX10_connects_51 : decode cX10_connects 51 = .ok (.aload_n 0, 1) := by decide +kernel
theorem dX10_connects_52 : decode cX10_connects 52 = .ok (.dup, 1) := by decide +kernel
theorem dX10_connects_53 : decode cX10_connects 53 = .ok (.getfield 154, 3) := by decide +kernel
theorem dX10_connects_56 : decode cX10_connects 56 = .ok (.iconst 1, 1) := by decide +kernel
theorem dX10_connects_57 : decode cX10_connects 57 = .ok (.iadd, 1) := by decide +kernel
theorem dX10_connects_58 : decode cX10_connects 58 = .ok (.putfield 154, 3) := by decide +kernel
theorem dX10_connects_61 : decode cX10_connects 61 = .ok (.aload_n 0, 1) := by decide +kernel
theorem dX10_connects_62 : decode cX10_connects 62 = .ok (.dup, 1) := by decide +kernel
theorem dX10_connects_63 : decode cX10_connects 63 = .ok (.getfield 119, 3) := by decide +kernel
theorem dX10_connects_66 : decode cX10_connects 66 = .ok (.iconst 1, 1) := by decide +kernel
theorem dX10_connects_67 : decode cX10_connects 67 = .ok (.iadd, 1) := by decide +kernel
theorem dX10_connects_68 : decode cX10_connects 68 = .ok (.putfield 119, 3) := by decide +kernel
theorem dX10_connects_71 : decode cX10_connects 71 = .ok (.goto (-56), 3) := by decide +kernel
theorem dX10_connects_74 : decode cX10_connects 74 = .ok (.return_, 1) := by decide +kernel
theorem dX10_call_0 : decode cX10_call 0 = .ok (.aload_n 0, 1) := by decide +kernel
theorem dX10_call_1 : decode cX10_call 1 = .ok (.iload_n 1, 1) := by decide +kernel
theorem dX10_call_2 : decode cX10_call 2 = .ok (.invokevirtual 79, 3) := by decide +kernel
theorem dX10_call_5 : decode cX10_call 5 = .ok (.ifCond .eq 10, 3) := by decide +kernel
theorem dX10_call_8 : decode cX10_call 8 = .ok (.iload_n 2, 1) := by decide +kernel
theorem dX10_call_9 : decode cX10_call 9 = .ok (.invokestatic 97, 3) := by decide +kernel
theorem dX10_call_12 : decode cX10_call 12 = .ok (.ifCond .ne 5, 3) := by decide +kernel
theorem dX10_call_15 : decode cX10_call 15 = .ok (.iconst (-1), 1) := by decide +kernel
theorem dX10_call_16 : decode cX10_call 16 = .ok (.ireturn, 1) := by decide +kernel
theorem dX10_call_17 : decode cX10_call 17 = .ok (.aload_n 0, 1) := by decide +kernel
theorem dX10_call_18 : decode cX10_call 18 = .ok (.getfield 7, 3) := by decide +kernel
theorem dX10_call_21 : decode cX10_call 21 = .ok (.iconst 5, 1) := by decide +kernel
theorem dX10_call_22 : decode cX10_call 22 = .ok (.iaload, 1) := by decide +kernel
theorem dX10_call_23 : decode cX10_call 23 = .ok (.bipush 10, 2) := by decide +kernel
theorem dX10_call_25 : decode cX10_call 25 = .ok (.if_icmp .ne 6, 3) := by decide +kernel
theorem dX10_call_28 : decode cX10_call 28 = .ok (.bipush (-3), 2) := by decide +kernel
theorem dX10_call_30 : decode cX10_call 30 = .ok (.ireturn, 1) := by decide +kernel
theorem dX10_call_31 : decode cX10_call 31 = .ok (.aload_n 0, 1) := by decide +kernel
theorem dX10_call_32 : decode cX10_call 32 = .ok (.getfield 7, 3) := by decide +kernel
theorem dX10_call_35 : decode cX10_call 35 = .ok (.aload_n 0, 1) := by decide +kernel
theorem dX10_call_36 : decode cX10_call 36 = .ok (.getfield 13, 3) := by decide +kernel
theorem dX10_call_39 : decode cX10_call 39 = .ok (.invokestatic 157, 3) := by decide +kernel
theorem dX10_call_42 : decode cX10_call 42 = .ok (.aload_n 0, 1) := by decide +kernel
theorem dX10_call_43 : decode cX10_call 43 = .ok (.iload_n 1, 1) := by decide +kernel
theorem dX10_call_44 : decode cX10_call 44 = .ok (.iload_n 2, 1) := by decide +kernel
theorem dX10_call_45 : decode cX10_call 45 = .ok (.invokevirtual 161, 3) := by decide +kernel
theorem dX10_call_48 : decode cX10_call 48 = .ok (.istore_n 3, 1) := by decide +kernel
theorem dX10_call_49 : decode cX10_call 49 = .ok (.iload_n 3, 1) := by decide +kernel
theorem dX10_call_50 : decode cX10_call 50 = .ok (.ifCond .eq 19, 3) := by decide +kernel
theorem dX10_call_53 : decode cX10_call 53 = .ok (.aload_n 0, 1) := by decide +kernel
theorem dX10_call_54 : decode cX10_call 54 = .ok (.getfield 13, 3) := by decide +kernel
theorem dX10_call_57 : decode cX10_call 57 = .ok (.aload_n 0, 1) := by decide +kernel
theorem dX10_call_58 : decode cX10_call 58 = .ok (.getfield 7, 3) := by decide +kernel
theorem dX10_call_61 : decode cX10_call 61 = .ok (.invokestatic 157, 3) := by decide +kernel
theorem dX10_call_64 : decode cX10_call 64 = .ok (.bipush (-10), 2) := by decide +kernel
theorem dX10_call_66 : decode cX10_call 66 = .ok (.iload_n 3, 1) := by decide +kernel
theorem dX10_call_67 : decode cX10_call 67 = .ok (.isub, 1) := by decide +kernel
theorem dX10_call_68 : decode cX10_call 68 = .ok (.ireturn, 1) := by decide +kernel
theorem dX10_call_69 : decode cX10_call 69 = .ok (.aload_n 0, 1) := by decide +kernel
theorem dX10_call_70 : decode cX10_call 70 = .ok (.aload_n 0, 1) := by decide +kernel
theorem dX10_call_71 : decode cX10_call 71 = .ok (.getfield 13, 3) := by decide +kernel
theorem dX10_call_74 : decode cX10_call 74 = .ok (.invokevirtual 62, 3) := by decide +kernel
theorem dX10_call_77 : decode cX10_call 77 = .ok (.iconst 0, 1) := by decide +kernel
theorem dX10_call_78 : decode cX10_call 78 = .ok (.istore 4, 2) := by decide +kernel
theorem dX10_call_80 : decode cX10_call 80 = .ok (.aload_n 0, 1) := by decide +kernel
theorem dX10_call_81 : decode cX10_call 81 = .ok (.getfield 7, 3) := by decide +kernel
theorem dX10_call_84 : decode cX10_call 84 = .ok (.sipush 420, 3) := by decide +kernel
theorem dX10_call_87 : decode cX10_call 87 = .ok (.bipush 14, 2) := by decide +kernel
theorem dX10_call_89 : decode cX10_call 89 = .ok (.iload 4, 2) := by decide +kernel
theorem dX10_call_91 : decode cX10_call 91 = .ok (.imul, 1) := by decide +kernel
theorem dX10_call_92 : decode cX10_call 92 = .ok (.iadd, 1) := by decide +kernel
theorem dX10_call_93 : decode cX10_call 93 = .ok (.iaload, 1) := by decide +kernel
theorem dX10_call_94 : decode cX10_call 94 = .ok (.iconst 1, 1) := by decide +kernel
theorem dX10_call_95 : decode cX10_call 95 = .ok (.if_icmp .ne 9, 3) := by decide +kernel
theorem dX10_call_98 : decode cX10_call 98 = .ok (.iinc 4 1, 3) := by decide +kernel
theorem dX10_call_101 : decode cX10_call 101 = .ok (.goto (-21), 3) := by decide +kernel
theorem dX10_call_104 : decode cX10_call 104 = .ok (.sipush 420, 3) := by decide +kernel
theorem dX10_call_107 : decode cX10_call 107 = .ok (.bipush 14, 2) := by decide +kernel
theorem dX10_call_109 : decode cX10_call 109 = .ok (.iload 4, 2) := by decide +kernel
theorem dX10_call_111 : decode cX10_call 111 = .ok (.imul, 1) := by decide +kernel
theorem dX10_call_112 : decode cX10_call 112 = .ok (.iadd, 1) := by decide +kernel
theorem dX10_call_113 : decode cX10_call 113 = .ok (.istore 5, 2) := by decide +kernel
theorem dX10_call_115 : decode cX10_call 115 = .ok (.aload_n 0, 1) := by decide +kernel
theorem dX10_call_116 : decode cX10_call 116 = .ok (.getfield 7, 3) := by decide +kernel
theorem dX10_call_119 : decode cX10_call 119 = .ok (.iload 5, 2) := by decide +kernel
theorem dX10_call_121 : decode cX10_call 121 = .ok (.iconst 1, 1) := by decide +kernel
theorem dX10_call_122 : decode cX10_call 122 = .ok (.iastore, 1) := by decide +kernel
theorem dX10_call_123 : decode cX10_call 123 = .ok (.aload_n 0, 1) := by decide +kernel
theorem dX10_call_124 : decode cX10_call 124 = .ok (.getfield 7, 3) := by decide +kernel
theorem dX10_call_127 : decode cX10_call 127 = .ok (.iload 5, 2) := by decide +kernel
theorem dX10_call_129 : decode cX10_call 129 = .ok (.iconst 1, 1) := by decide +kernel
theorem dX10_call_130 : decode cX10_call 130 = .ok (.iadd, 1) := by decide +kernel
theorem dX10_call_131 : decode cX10_call 131 = .ok (.iload_n 2, 1) := by decide +kernel
theorem dX10_call_132 : decode cX10_call 132 = .ok (.iastore, 1) := by decide +kernel
theorem dX10_call_133 : decode cX10_call 133 = .ok (.aload_n 0, 1) := by decide +kernel
theorem dX10_call_134 : decode cX10_call 134 = .ok (.getfield 7, 3) := by decide +kernel
theorem dX10_call_137 : decode cX10_call 137 = .ok (.iload 5, 2) := by decide +kernel
theorem dX10_call_139 : decode cX10_call 139 = .ok (.iconst 2, 1) := by decide +kernel
theorem dX10_call_140 : decode cX10_call 140 = .ok (.iadd, 1) := by decide +kernel
theorem dX10_call_141 : decode cX10_call 141 = .ok (.aload_n 0, 1) := by decide +kernel
theorem dX10_call_142 : decode cX10_call 142 = .ok (.getfield 7, 3) := by decide +kernel
theorem dX10_call_145 : decode cX10_call 145 = .ok (.iconst 4, 1) := by decide +kernel
theorem dX10_call_146 : decode cX10_call 146 = .ok (.iaload, 1) := by decide +kernel
theorem dX10_call_147 : decode cX10_call 147 = .ok (.iastore, 1) := by decide +kernel
theorem dX10_call_148 : decode cX10_call 148 = .ok (.aload_n 0, 1) := by decide +kernel
theorem dX10_call_149 : decode cX10_call 149 = .ok (.getfield 7, 3) := by decide +kernel
theorem dX10_call_152 : decode cX10_call 152 = .ok (.iload 5, 2) := by decide +kernel
theorem dX10_call_154 : decode cX10_call 154 = .ok (.iconst 3, 1) := by decide +kernel
theorem dX10_call_155 : decode cX10_call 155 = .ok (.iadd, 1) := by decide +kernel
theorem dX10_call_156 : decode cX10_call 156 = .ok (.aload_n 0, 1) := by decide +kernel
theorem dX10_call_157 : decode cX10_call 157 = .ok (.aload_n 0, 1) := by decide +kernel
theorem dX10_call_158 : decode cX10_call 158 = .ok (.getfield 7, 3) := by decide +kernel
theorem dX10_call_161 : decode cX10_call 161 = .ok (.iconst 4, 1) := by decide +kernel
theorem dX10_call_162 : decode cX10_call 162 = .ok (.iaload, 1) := by decide +kernel
theorem dX10_call_163 : decode cX10_call 163 = .ok (.invokevirtual 116, 3) := by decide +kernel
theorem dX10_call_166 : decode cX10_call 166 = .ok (.iastore, 1) := by decide +kernel
theorem dX10_call_167 : decode cX10_call 167 = .ok (.aload_n 0, 1) := by decide +kernel
theorem dX10_call_168 : decode cX10_call 168 = .ok (.getfield 7, 3) := by decide +kernel
theorem dX10_call_171 : decode cX10_call 171 = .ok (.iload 5, 2) := by decide +kernel
theorem dX10_call_173 : decode cX10_call 173 = .ok (.iconst 4, 1) := by decide +kernel
theorem dX10_call_174 : decode cX10_call 174 = .ok (.iadd, 1) := by decide +kernel
theorem dX10_call_175 : decode cX10_call 175 = .ok (.aload_n 0, 1) := by decide +kernel
theorem dX10_call_176 : decode cX10_call 176 = .ok (.getfield 154, 3) := by decide +kernel
theorem dX10_call_179 : decode cX10_call 179 = .ok (.iastore, 1) := by decide +kernel
theorem dX10_call_180 : decode cX10_call 180 = .ok (.iconst 0, 1) := by decide +kernel
theorem dX10_call_181 : decode cX10_call 181 = .ok (.istore 6, 2) := by decide +kernel
theorem dX10_call_183 : decode cX10_call 183 = .ok (.iload 6, 2) := by decide +kernel
theorem dX10_call_185 : decode cX10_call 185 = .ok (.aload_n 0, 1) := by decide +kernel
theorem dX10_call_186 : decode cX10_call 186 = .ok (.getfield 154, 3) := by decide +kernel
theorem dX10_call_189 : decode cX10_call 189 = .ok (.if_icmp .ge 28, 3) := by decide +kernel
theorem dX10_call_192 : decode cX10_call 192 = .ok (.aload_n 0, 1) := by decide +kernel
theorem dX10_call_193 : decode cX10_call 193 = .ok (.getfield 7, 3) := by decide +kernel
theorem dX10_call_196 : decode cX10_call 196 = .ok (.iload 5, 2) := by decide +kernel
theorem dX10_call_198 : decode cX10_call 198 = .ok (.iconst 5, 1) := by decide +kernel
theorem dX10_call_199 : decode cX10_call 199 = .ok (.iadd, 1) := by decide +kernel
theorem dX10_call_200 : decode cX10_call 200 = .ok (.iload 6, 2) := by decide +kernel
theorem dX10_call_202 : decode cX10_call 202 = .ok (.iadd, 1) := by decide +kernel
theorem dX10_call_203 : decode cX10_call 203 = .ok (.aload_n 0, 1) := by decide +kernel
theorem dX10_call_204 : decode cX10_call 204 = .ok (.getfield 46, 3) := by decide +kernel
theorem dX10_call_207 : decode cX10_call 207 = .ok (.iload 6, 2) := by decide +kernel
theorem dX10_call_209 : decode cX10_call 209 = .ok (.iaload, 1) := by decide +kernel
theorem dX10_call_210 : decode cX10_call 210 = .ok (.iastore, 1) := by decide +kernel
theorem dX10_call_211 : decode cX10_call 211 = .ok (.iinc 6 1, 3) := by decide +kernel
theorem dX10_call_214 : decode cX10_call 214 = .ok (.goto (-31), 3) := by decide +kernel
theorem dX10_call_217 : decode cX10_call 217 = .ok (.aload_n 0, 1) := by decide +kernel
theorem dX10_call_218 : decode cX10_call 218 = .ok (.getfield 7, 3) := by decide +kernel
theorem dX10_call_221 : decode cX10_call 221 = .ok (.iconst 5, 1) := by decide +kernel
theorem dX10_call_222 : decode cX10_call 222 = .ok (.dup2, 1) := by decide +kernel
theorem dX10_call_223 : decode cX10_call 223 = .ok (.iaload, 1) := by decide +kernel
theorem dX10_call_224 : decode cX10_call 224 = .ok (.iconst 1, 1) := by decide +kernel
theorem dX10_call_225 : decode cX10_call 225 = .ok (.iadd, 1) := by decide +kernel
theorem dX10_call_226 : decode cX10_call 226 = .ok (.iastore, 1) := by decide +kernel
theorem dX10_call_227 : decode cX10_call 227 = .ok (.iload 4, 2) := by decide +kernel
theorem dX10_call_229 : decode cX10_call 229 = .ok (.ireturn, 1) := by decide +kernel
theorem dX10_isCall_0 : decode cX10_isCall 0 = .ok (.iload_n 1, 1) := by decide +kernel
theorem dX10_isCall_1 : decode cX10_isCall 1 = .ok (.iconst 0, 1) := by decide +kernel
theorem dX10_isCall_2 : decode cX10_isCall 2 = .ok (.bipush 9, 2) := by decide +kernel
theorem dX10_isCall_4 : decode cX10_isCall 4 = .ok (.invokestatic 66, 3) := by decide +kernel
theorem dX10_isCall_7 : decode cX10_isCall 7 = .ok (.ifCond .eq 24, 3) := by decide +kernel
theorem dX10_isCall_10 : decode cX10_isCall 10 = .ok (.aload_n 0, 1) := by decide +kernel
theorem dX10_isCall_11 : decode cX10_isCall 11 = .ok (.getfield 7, 3) := by decide +kernel
theorem dX10_isCall_14 : decode cX10_isCall 14 = .ok (.sipush 420, 3) := by decide +kernel
theorem dX10_isCall_17 : decode cX10_isCall 17 = .ok (.bipush 14, 2) := by decide +kernel
theorem dX10_isCall_19 : decode cX10_isCall 19 = .ok (.iload_n 1, 1) := by decide +kernel
theorem dX10_isCall_20 : decode cX10_isCall 20 = .ok (.imul, 1) := by decide +kernel
theorem dX10_isCall_21 : decode cX10_isCall 21 = .ok (.iadd, 1) := by decide +kernel
theorem dX10_isCall_22 : decode cX10_isCall 22 = .ok (.iaload, 1) := by decide +kernel
theorem dX10_isCall_23 : decode cX10_isCall 23 = .ok (.iconst 1, 1) := by decide +kernel
theorem dX10_isCall_24 : decode cX10_isCall 24 = .ok (.if_icmp .ne 7, 3) := by decide +kernel
theorem dX10_isCall_27 : decode cX10_isCall 27 = .ok (.iconst 1, 1) := by decide +kernel
theorem dX10_isCall_28 : decode cX10_isCall 28 = .ok (.goto 4, 3) := by decide +kernel
theorem dX10_isCall_31 : decode cX10_isCall 31 = .ok (.iconst 0, 1) := by decide +kernel
theorem dX10_isCall_32 : decode cX10_isCall 32 = .ok (.ireturn, 1) := by decide +kernel
theorem dX10_end_0 : decode cX10_end 0 = .ok (.aload_n 0, 1) := by decide +kernel
theorem dX10_end_1 : decode cX10_end 1 = .ok (.iload_n 1, 1) := by decide +kernel
theorem dX10_end_2 : decode cX10_end 2 = .ok (.invokevirtual 164, 3) := by decide +kernel
theorem dX10_end_5 : decode cX10_end 5 = .ok (.ifCond .ne 5, 3) := by decide +kernel
theorem dX10_end_8 : decode cX10_end 8 = .ok (.iconst (-1), 1) := by decide +kernel
theorem dX10_end_9 : decode cX10_end 9 = .ok (.ireturn, 1) := by decide +kernel
theorem dX10_end_10 : decode cX10_end 10 = .ok (.aload_n 0, 1) := by decide +kernel
theorem dX10_end_11 : decode cX10_end 11 = .ok (.aload_n 0, 1) := by decide +kernel
theorem dX10_end_12 : decode cX10_end 12 = .ok (.getfield 7, 3) := by decide +kernel
theorem dX10_end_15 : decode cX10_end 15 = .ok (.invokevirtual 62, 3) := by decide +kernel
theorem dX10_end_18 : decode cX10_end 18 = .ok (.sipush 420, 3) := by decide +kernel
theorem dX10_end_21 : decode cX10_end 21 = .ok (.bipush 14, 2) := by decide +kernel
theorem dX10_end_23 : decode cX10_end 23 = .ok (.iload_n 1, 1) := by decide +kernel
theorem dX10_end_24 : decode cX10_end 24 = .ok (.imul, 1) := by decide +kernel
theorem dX10_end_25 : decode cX10_end 25 = .ok (.iadd, 1) := by decide +kernel
theorem dX10_end_26 : decode cX10_end 26 = .ok (.istore_n 2, 1) := by decide +kernel
theorem dX10_end_27 : decode cX10_end 27 = .ok (.aload_n 0, 1) := by decide +kernel
theorem dX10_end_28 : decode cX10_end 28 = .ok (.getfield 7, 3) := by decide +kernel
theorem dX10_end_31 : decode cX10_end 31 = .ok (.iconst 4, 1) := by decide +kernel
theorem dX10_end_32 : decode cX10_end 32 = .ok (.iaload, 1) := by decide +kernel
theorem dX10_end_33 : decode cX10_end 33 = .ok (.aload_n 0, 1) := by decide +kernel
theorem dX10_end_34 : decode cX10_end 34 = .ok (.getfield 7, 3) := by decide +kernel
theorem dX10_end_37 : decode cX10_end 37 = .ok (.iload_n 2, 1) := by decide +kernel
theorem dX10_end_38 : decode cX10_end 38 = .ok (.iconst 2, 1) := by decide +kernel
theorem dX10_end_39 : decode cX10_end 39 = .ok (.iadd, 1) := by decide +kernel
theorem dX10_end_40 : decode cX10_end 40 = .ok (.iaload, 1) := by decide +kernel
theorem dX10_end_41 : decode cX10_end 41 = .ok (.isub, 1) := by decide +kernel
theorem dX10_end_42 : decode cX10_end 42 = .ok (.istore_n 3, 1) := by decide +kernel
theorem dX10_end_43 : decode cX10_end 43 = .ok (.iload_n 3, 1) := by decide +kernel
theorem dX10_end_44 : decode cX10_end 44 = .ok (.iconst 1, 1) := by decide +kernel
theorem dX10_end_45 : decode cX10_end 45 = .ok (.if_icmp .ge 7, 3) := by decide +kernel
theorem dX10_end_48 : decode cX10_end 48 = .ok (.iconst 1, 1) := by decide +kernel
theorem dX10_end_49 : decode cX10_end 49 = .ok (.goto 4, 3) := by decide +kernel
theorem dX10_end_52 : decode cX10_end 52 = .ok (.iload_n 3, 1) := by decide +kernel
theorem dX10_end_53 : decode cX10_end 53 = .ok (.istore_n 3, 1) := by decide +kernel
theorem dX10_end_54 : decode cX10_end 54 = .ok (.iconst 0, 1) := by decide +kernel
theorem dX10_end_55 : decode cX10_end 55 = .ok (.istore 4, 2) := by decide +kernel
theorem dX10_end_57 : decode cX10_end 57 = .ok (.iconst 0, 1) := by decide +kernel
theorem dX10_end_58 : decode cX10_end 58 = .ok (.istore 5, 2) := by decide +kernel
theorem dX10_end_60 : decode cX10_end 60 = .ok (.iload 5, 2) := by decide +kernel
theorem dX10_end_62 : decode cX10_end 62 = .ok (.aload_n 0, 1) := by decide +kernel
theorem dX10_end_63 : decode cX10_end 63 = .ok (.getfield 7, 3) := by decide +kernel
theorem dX10_end_66 : decode cX10_end 66 = .ok (.iload_n 2, 1) := by decide +kernel
theorem dX10_end_67 : decode cX10_end 67 = .ok (.iconst 4, 1) := by decide +kernel
theorem dX10_end_68 : decode cX10_end 68 = .ok (.iadd, 1) := by decide +kernel
theorem dX10_end_69 : decode cX10_end 69 = .ok (.iaload, 1) := by decide +kernel
theorem dX10_end_70 : decode cX10_end 70 = .ok (.if_icmp .ge 112, 3) := by decide +kernel
theorem dX10_end_73 : decode cX10_end 73 = .ok (.aload_n 0, 1) := by decide +kernel
theorem dX10_end_74 : decode cX10_end 74 = .ok (.getfield 7, 3) := by decide +kernel
theorem dX10_end_77 : decode cX10_end 77 = .ok (.iload_n 2, 1) := by decide +kernel
theorem dX10_end_78 : decode cX10_end 78 = .ok (.iconst 5, 1) := by decide +kernel
theorem dX10_end_79 : decode cX10_end 79 = .ok (.iadd, 1) := by decide +kernel
theorem dX10_end_80 : decode cX10_end 80 = .ok (.iload 5, 2) := by decide +kernel
theorem dX10_end_82 : decode cX10_end 82 = .ok (.iadd, 1) := by decide +kernel
theorem dX10_end_83 : decode cX10_end 83 = .ok (.iaload, 1) := by decide +kernel
theorem dX10_end_84 : decode cX10_end 84 = .ok (.istore 6, 2) := by decide +kernel
theorem dX10_end_86 : decode cX10_end 86 = .ok (.aload_n 0, 1) := by decide +kernel
theorem dX10_end_87 : decode cX10_end 87 = .ok (.iload 6, 2) := by decide +kernel
theorem dX10_end_89 : decode cX10_end 89 = .ok (.aload_n 0, 1) := by decide +kernel
theorem dX10_end_90 : decode cX10_end 90 = .ok (.getfield 7, 3) := by decide +kernel
theorem dX10_end_93 : decode cX10_end 93 = .ok (.iload_n 2, 1) := by decide +kernel
theorem dX10_end_94 : decode cX10_end 94 = .ok (.iconst 3, 1) := by decide +kernel
theorem dX10_end_95 : decode cX10_end 95 = .ok (.iadd, 1) := by decide +kernel
theorem dX10_end_96 : decode cX10_end 96 = .ok (.iaload, 1) := by decide +kernel
theorem dX10_end_97 : decode cX10_end 97 = .ok (.invokevirtual 167, 3) := by decide +kernel
theorem dX10_end_100 : decode cX10_end 100 = .ok (.iload_n 3, 1) := by decide +kernel
theorem dX10_end_101 : decode cX10_end 101 = .ok (.imul, 1) := by decide +kernel
theorem dX10_end_102 : decode cX10_end 102 = .ok (.istore 7, 2) := by decide +kernel
theorem dX10_end_104 : decode cX10_end 104 = .ok (.aload_n 0, 1) := by decide +kernel
theorem dX10_end_105 : decode cX10_end 105 = .ok (.getfield 7, 3) := by decide +kernel
theorem dX10_end_108 : decode cX10_end 108 = .ok (.sipush 570, 3) := by decide +kernel
theorem dX10_end_111 : decode cX10_end 111 = .ok (.bipush 8, 2) := by decide +kernel
theorem dX10_end_113 : decode cX10_end 113 = .ok (.aload_n 0, 1) := by decide +kernel
theorem dX10_end_114 : decode cX10_end 114 = .ok (.iload 6, 2) := by decide +kernel
theorem dX10_end_116 : decode cX10_end 116 = .ok (.iconst 0, 1) := by decide +kernel
theorem dX10_end_117 : decode cX10_end 117 = .ok (.invokevirtual 71, 3) := by decide +kernel
theorem dX10_end_120 : decode cX10_end 120 = .ok (.imul, 1) := by decide +kernel
theorem dX10_end_121 : decode cX10_end 121 = .ok (.iadd, 1) := by decide +kernel
theorem dX10_end_122 : decode cX10_end 122 = .ok (.aload_n 0, 1) := by decide +kernel
theorem dX10_end_123 : decode cX10_end 123 = .ok (.iload 6, 2) := by decide +kernel
theorem dX10_end_125 : decode cX10_end 125 = .ok (.iconst 2, 1) := by decide +kernel
theorem dX10_end_126 : decode cX10_end 126 = .ok (.invokevirtual 71, 3) := by decide +kernel
theorem dX10_end_129 : decode cX10_end 129 = .ok (.iadd, 1) := by decide +kernel
theorem dX10_end_130 : decode cX10_end 130 = .ok (.dup2, 1) := by decide +kernel
theorem dX10_end_131 : decode cX10_end 131 = .ok (.iaload, 1) := by decide +kernel
theorem dX10_end_132 : decode cX10_end 132 = .ok (.iload 7, 2) := by decide +kernel
theorem dX10_end_134 : decode cX10_end 134 = .ok (.iadd, 1) := by decide +kernel
theorem dX10_end_135 : decode cX10_end 135 = .ok (.iastore, 1) := by decide +kernel
theorem dX10_end_136 : decode cX10_end 136 = .ok (.aload_n 0, 1) := by decide +kernel
theorem dX10_end_137 : decode cX10_end 137 = .ok (.getfield 7, 3) := by decide +kernel
theorem dX10_end_140 : decode cX10_end 140 = .ok (.bipush 30, 2) := by decide +kernel
theorem dX10_end_142 : decode cX10_end 142 = .ok (.bipush 8, 2) := by decide +kernel
theorem dX10_end_144 : decode cX10_end 144 = .ok (.iload 6, 2) := by decide +kernel
theorem dX10_end_146 : decode cX10_end 146 = .ok (.imul, 1) := by decide +kernel
theorem dX10_end_147 : decode cX10_end 147 = .ok (.iadd, 1) := by decide +kernel
theorem dX10_end_148 : decode cX10_end 148 = .ok (.bipush 7, 2) := by decide +kernel
theorem dX10_end_150 : decode cX10_end 150 = .ok (.iadd, 1) := by decide +kernel
theorem dX10_end_151 : decode cX10_end 151 = .ok (.dup2, 1) := by decide +kernel
theorem dX10_end_152 : decode cX10_end 152 = .ok (.iaload, 1) := by decide +kernel
theorem dX10_end_153 : decode cX10_end 153 = .ok (.aload_n 0, 1) := by decide +kernel
theorem dX10_end_154 : decode cX10_end 154 = .ok (.iload 6, 2) := by decide +kernel
theorem dX10_end_156 : decode cX10_end 156 = .ok (.invokevirtual 75, 3) := by decide +kernel
theorem dX10_end_159 : decode cX10_end 159 = .ok (.ifCond .eq 7, 3) := by decide +kernel
theorem dX10_end_162 : decode cX10_end 162 = .ok (.iconst 0, 1) := by decide +kernel
theorem dX10_end_163 : decode cX10_end 163 = .ok (.goto 4, 3) := by decide +kernel
theorem dX10_end_166 : decode cX10_end 166 = .ok (.iconst 1, 1) := by decide +kernel
theorem dX10_end_167 : decode cX10_end 167 = .ok (.isub, 1) := by decide +kernel
theorem dX10_end_168 : decode cX10_end 168 = .ok (.iastore, 1) := by decide +kernel
theorem dX10_end_169 : decode cX10_end 169 = .ok (.iload 4, 2) := by decide +kernel
theorem dX10_end_171 : decode cX10_end 171 = .ok (.iload 7, 2) := by decide +kernel
theorem dX10_end_173 : decode cX10_end 173 = .ok (.iadd, 1) := by decide +kernel
theorem dX10_end_174 : decode cX10_end 174 = .ok (.istore 4, 2) := by decide +kernel
theorem dX10_end_176 : decode cX10_end 176 = .ok (.iinc 5 1, 3) := by decide +kernel
theorem dX10_end_179 : decode cX10_end 179 = .ok (.goto (-119), 3) := by decide +kernel
theorem dX10_end_182 : decode cX10_end 182 = .ok (.aload_n 0, 1) := by decide +kernel
theorem dX10_end_183 : decode cX10_end 183 = .ok (.getfield 7, 3) := by decide +kernel
theorem dX10_end_186 : decode cX10_end 186 = .ok (.iload_n 2, 1) := by decide +kernel
theorem dX10_end_187 : decode cX10_end 187 = .ok (.iconst 0, 1) := by decide +kernel
theorem dX10_end_188 : decode cX10_end 188 = .ok (.iastore, 1) := by decide +kernel
theorem dX10_end_189 : decode cX10_end 189 = .ok (.aload_n 0, 1) := by decide +kernel
theorem dX10_end_190 : decode cX10_end 190 = .ok (.getfield 7, 3) := by decide +kernel
theorem dX10_end_193 : decode cX10_end 193 = .ok (.iconst 5, 1) := by decide +kernel
theorem dX10_end_194 : decode cX10_end 194 = .ok (.dup2, 1) := by decide +kernel
theorem dX10_end_195 : decode cX10_end 195 = .ok (.iaload, 1) := by decide +kernel
theorem dX10_end_196 : decode cX10_end 196 = .ok (.iconst 1, 1) := by decide +kernel
theorem dX10_end_197 : decode cX10_end 197 = .ok (.isub, 1) := by decide +kernel
theorem dX10_end_198 : decode cX10_end 198 = .ok (.iastore, 1) := by decide +kernel
theorem dX10_end_199 : decode cX10_end 199 = .ok (.iload 4, 2) := by decide +kernel
theorem dX10_end_201 : decode cX10_end 201 = .ok (.ireturn, 1) := by decide +kernel
theorem dX10_pass_0 : decode cX10_pass 0 = .ok (.iload_n 1, 1) := by decide +kernel
theorem dX10_pass_1 : decode cX10_pass 1 = .ok (.iconst 1, 1) := by decide +kernel
theorem dX10_pass_2 : decode cX10_pass 2 = .ok (.sipush 10080, 3) := by decide +kernel
theorem dX10_pass_5 : decode cX10_pass 5 = .ok (.invokestatic 66, 3) := by decide +kernel
theorem dX10_pass_8 : decode cX10_pass 8 = .ok (.ifCond .ne 5, 3) := by decide +kernel
theorem dX10_pass_11 : decode cX10_pass 11 = .ok (.iconst (-1), 1) := by decide +kernel
theorem dX10_pass_12 : decode cX10_pass 12 = .ok (.ireturn, 1) := by decide +kernel
theorem dX10_pass_13 : decode cX10_pass 13 = .ok (.aload_n 0, 1) := by decide +kernel
theorem dX10_pass_14 : decode cX10_pass 14 = .ok (.getfield 7, 3) := by decide +kernel
theorem dX10_pass_17 : decode cX10_pass 17 = .ok (.iconst 4, 1) := by decide +kernel
theorem dX10_pass_18 : decode cX10_pass 18 = .ok (.iaload, 1) := by decide +kernel
theorem dX10_pass_19 : decode cX10_pass 19 = .ok (.iload_n 1, 1) := by decide +kernel
theorem dX10_pass_20 : decode cX10_pass 20 = .ok (.iadd, 1) := by decide +kernel
theorem dX10_pass_21 : decode cX10_pass 21 = .ok (.ldc 170, 2) := by decide +kernel
theorem dX10_pass_23 : decode cX10_pass 23 = .ok (.if_icmp .le 6, 3) := by decide +kernel
theorem dX10_pass_26 : decode cX10_pass 26 = .ok (.bipush (-2), 2) := by decide +kernel
theorem dX10_pass_28 : decode cX10_pass 28 = .ok (.ireturn, 1) := by decide +kernel
theorem dX10_pass_29 : decode cX10_pass 29 = .ok (.aload_n 0, 1) := by decide +kernel
theorem dX10_pass_30 : decode cX10_pass 30 = .ok (.aload_n 0, 1) := by decide +kernel
theorem dX10_pass_31 : decode cX10_pass 31 = .ok (.getfield 7, 3) := by decide +kernel
theorem dX10_pass_34 : decode cX10_pass 34 = .ok (.invokevirtual 62, 3) := by decide +kernel
theorem dX10_pass_37 : decode cX10_pass 37 = .ok (.aload_n 0, 1) := by decide +kernel
theorem dX10_pass_38 : decode cX10_pass 38 = .ok (.getfield 7, 3) := by decide +kernel
theorem dX10_pass_41 : decode cX10_pass 41 = .ok (.iconst 4, 1) := by decide +kernel
theorem dX10_pass_42 : decode cX10_pass 42 = .ok (.dup2, 1) := by decide +kernel
theorem dX10_pass_43 : decode cX10_pass 43 = .ok (.iaload, 1) := by decide +kernel
theorem dX10_pass_44 : decode cX10_pass 44 = .ok (.iload_n 1, 1) := by decide +kernel
theorem dX10_pass_45 : decode cX10_pass 45 = .ok (.iadd, 1) := by decide +kernel
theorem dX10_pass_46 : decode cX10_pass 46 = .ok (.iastore, 1) := by decide +kernel
theorem dX10_pass_47 : decode cX10_pass 47 = .ok (.aload_n 0, 1) := by decide +kernel
theorem dX10_pass_48 : decode cX10_pass 48 = .ok (.getfield 7, 3) := by decide +kernel
theorem dX10_pass_51 : decode cX10_pass 51 = .ok (.iconst 4, 1) := by decide +kernel
theorem dX10_pass_52 : decode cX10_pass 52 = .ok (.iaload, 1) := by decide +kernel
theorem dX10_pass_53 : decode cX10_pass 53 = .ok (.ireturn, 1) := by decide +kernel
theorem dX10_time_0 : decode cX10_time 0 = .ok (.aload_n 0, 1) := by decide +kernel
theorem dX10_time_1 : decode cX10_time 1 = .ok (.getfield 7, 3) := by decide +kernel
theorem dX10_time_4 : decode cX10_time 4 = .ok (.iconst 4, 1) := by decide +kernel
theorem dX10_time_5 : decode cX10_time 5 = .ok (.iaload, 1) := by decide +kernel
theorem dX10_time_6 : decode cX10_time 6 = .ok (.ireturn, 1) := by decide +kernel
theorem dX10_band_0 : decode cX10_band 0 = .ok (.aload_n 0, 1) := by decide +kernel
theorem dX10_band_1 : decode cX10_band 1 = .ok (.aload_n 0, 1) := by decide +kernel
theorem dX10_band_2 : decode cX10_band 2 = .ok (.getfield 7, 3) := by decide +kernel
theorem dX10_band_5 : decode cX10_band 5 = .ok (.iconst 4, 1) := by decide +kernel
theorem dX10_band_6 : decode cX10_band 6 = .ok (.iaload, 1) := by decide +kernel
theorem dX10_band_7 : decode cX10_band 7 = .ok (.invokevirtual 116, 3) := by decide +kernel
theorem dX10_band_10 : decode cX10_band 10 = .ok (.ireturn, 1) := by decide +kernel
theorem dX10_route_0 : decode cX10_route 0 = .ok (.iload_n 1, 1) := by decide +kernel
theorem dX10_route_1 : decode cX10_route 1 = .ok (.iconst 0, 1) := by decide +kernel
theorem dX10_route_2 : decode cX10_route 2 = .ok (.aload_n 0, 1) := by decide +kernel
theorem dX10_route_3 : decode cX10_route 3 = .ok (.getfield 7, 3) := by decide +kernel
theorem dX10_route_6 : decode cX10_route 6 = .ok (.iconst 1, 1) := by decide +kernel
theorem dX10_route_7 : decode cX10_route 7 = .ok (.iaload, 1) := by decide +kernel
theorem dX10_route_8 : decode cX10_route 8 = .ok (.iconst 1, 1) := by decide +kernel
theorem dX10_route_9 : decode cX10_route 9 = .ok (.isub, 1) := by decide +kernel
theorem dX10_route_10 : decode cX10_route 10 = .ok (.invokestatic 66, 3) := by decide +kernel
theorem dX10_route_13 : decode cX10_route 13 = .ok (.ifCond .eq 22, 3) := by decide +kernel
theorem dX10_route_16 : decode cX10_route 16 = .ok (.iload_n 2, 1) := by decide +kernel
theorem dX10_route_17 : decode cX10_route 17 = .ok (.iconst 0, 1) := by decide +kernel
theorem dX10_route_18 : decode cX10_route 18 = .ok (.bipush 7, 2) := by decide +kernel
theorem dX10_route_20 : decode cX10_route 20 = .ok (.invokestatic 66, 3) := by decide +kernel
theorem dX10_route_23 : decode cX10_route 23 = .ok (.ifCond .eq 12, 3) := by decide +kernel
theorem dX10_route_26 : decode cX10_route 26 = .ok (.aload_n 0, 1) := by decide +kernel
theorem dX10_route_27 : decode cX10_route 27 = .ok (.iload_n 1, 1) := by decide +kernel
theorem dX10_route_28 : decode cX10_route 28 = .ok (.iload_n 2, 1) := by decide +kernel
theorem dX10_route_29 : decode cX10_route 29 = .ok (.invokevirtual 71, 3) := by decide +kernel
theorem dX10_route_32 : decode cX10_route 32 = .ok (.goto 4, 3) := by decide +kernel
theorem dX10_route_35 : decode cX10_route 35 = .ok (.iconst (-1), 1) := by decide +kernel
theorem dX10_route_36 : decode cX10_route 36 = .ok (.ireturn, 1) := by decide +kernel
theorem dX10_choice_0 : decode cX10_choice 0 = .ok (.aload_n 0, 1) := by decide +kernel
theorem dX10_choice_1 : decode cX10_choice 1 = .ok (.iload_n 1, 1) := by decide +kernel
theorem dX10_choice_2 : decode cX10_choice 2 = .ok (.invokevirtual 79, 3) := by decide +kernel
theorem dX10_choice_5 : decode cX10_choice 5 = .ok (.ifCond .eq 14, 3) := by decide +kernel
theorem dX10_choice_8 : decode cX10_choice 8 = .ok (.iload_n 2, 1) := by decide +kernel
theorem dX10_choice_9 : decode cX10_choice 9 = .ok (.invokestatic 97, 3) := by decide +kernel
theorem dX10_choice_12 : decode cX10_choice 12 = .ok (.ifCond .eq 7, 3) := by decide +kernel
theorem dX10_choice_15 : decode cX10_choice 15 = .ok (.iload_n 3, 1) := by decide +kernel
theorem dX10_choice_16 : decode cX10_choice 16 = .ok (.ifCond .ge 5, 3) := by decide +kernel
theorem dX10_choice_19 : decode cX10_choice 19 = .ok (.iconst (-1), 1) := by decide +kernel
theorem dX10_choice_20 : decode cX10_choice 20 = .ok (.ireturn, 1) := by decide +kernel
theorem dX10_choice_21 : decode cX10_choice 21 = .ok (.aload_n 0, 1) := by decide +kernel
theorem dX10_choice_22 : decode cX10_choice 22 = .ok (.iload_n 2, 1) := by decide +kernel
theorem dX10_choice_23 : decode cX10_choice 23 = .ok (.iconst (-1), 1) := by decide +kernel
theorem dX10_choice_24 : decode cX10_choice 24 = .ok (.invokevirtual 122, 3) := by decide +kernel
theorem dX10_choice_27 : decode cX10_choice 27 = .ok (.aload_n 0, 1) := by decide +kernel
theorem dX10_choice_28 : decode cX10_choice 28 = .ok (.iload_n 1, 1) := by decide +kernel
theorem dX10_choice_29 : decode cX10_choice 29 = .ok (.iconst 0, 1) := by decide +kernel
theorem dX10_choice_30 : decode cX10_choice 30 = .ok (.invokevirtual 126, 3) := by decide +kernel
theorem dX10_choice_33 : decode cX10_choice 33 = .ok (.istore 4, 2) := by decide +kernel
theorem dX10_choice_35 : decode cX10_choice 35 = .ok (.iload_n 3, 1) := by decide +kernel
theorem dX10_choice_36 : decode cX10_choice 36 = .ok (.iload 4, 2) := by decide +kernel
theorem dX10_choice_38 : decode cX10_choice 38 = .ok (.if_icmp .ge 12, 3) := by decide +kernel
theorem dX10_choice_41 : decode cX10_choice 41 = .ok (.aload_n 0, 1) := by decide +kernel
theorem dX10_choice_42 : decode cX10_choice 42 = .ok (.getfield 28, 3) := by decide +kernel
theorem dX10_choice_45 : decode cX10_choice 45 = .ok (.iload_n 3, 1) := by decide +kernel
theorem dX10_choice_46 : decode cX10_choice 46 = .ok (.iaload, 1) := by decide +kernel
theorem dX10_choice_47 : decode cX10_choice 47 = .ok (.goto 5, 3) := by decide +kernel
theorem dX10_choice_50 : decode cX10_choice 50 = .ok (.bipush (-9), 2) := by decide +kernel
theorem dX10_choice_52 : decode cX10_choice 52 = .ok (.ireturn, 1) := by decide +kernel
theorem dX10_calls_0 : decode cX10_calls 0 = .ok (.aload_n 0, 1) := by decide +kernel
theorem dX10_calls_1 : decode cX10_calls 1 = .ok (.getfield 7, 3) := by decide +kernel
theorem dX10_calls_4 : decode cX10_calls 4 = .ok (.iconst 5, 1) := by decide +kernel
theorem dX10_calls_5 : decode cX10_calls 5 = .ok (.iaload, 1) := by decide +kernel
theorem dX10_calls_6 : decode cX10_calls 6 = .ok (.ireturn, 1) := by decide +kernel
theorem dX10_way_0 : decode cX10_way 0 = .ok (.aload_n 0, 1) := by decide +kernel
theorem dX10_way_1 : decode cX10_way 1 = .ok (.iload_n 1, 1) := by decide +kernel
theorem dX10_way_2 : decode cX10_way 2 = .ok (.invokevirtual 164, 3) := by decide +kernel
theorem dX10_way_5 : decode cX10_way 5 = .ok (.ifCond .eq 7, 3) := by decide +kernel
theorem dX10_way_8 : decode cX10_way 8 = .ok (.iload_n 2, 1) := by decide +kernel
theorem dX10_way_9 : decode cX10_way 9 = .ok (.ifCond .ge 5, 3) := by decide +kernel
theorem dX10_way_12 : decode cX10_way 12 = .ok (.iconst (-1), 1) := by decide +kernel
theorem dX10_way_13 : decode cX10_way 13 = .ok (.ireturn, 1) := by decide +kernel
theorem dX10_way_14 : decode cX10_way 14 = .ok (.sipush 420, 3) := by decide +kernel
theorem dX10_way_17 : decode cX10_way 17 = .ok (.bipush 14, 2) := by decide +kernel
theorem dX10_way_19 : decode cX10_way 19 = .ok (.iload_n 1, 1) := by decide +kernel
theorem dX10_way_20 : decode cX10_way 20 = .ok (.imul, 1) := by decide +kernel
theorem dX10_way_21 : decode cX10_way 21 = .ok (.iadd, 1) := by decide +kernel
theorem dX10_way_22 : decode cX10_way 22 = .ok (.istore_n 3, 1) := by decide +kernel
theorem dX10_way_23 : decode cX10_way 23 = .ok (.iload_n 2, 1) := by decide +kernel
theorem dX10_way_24 : decode cX10_way 24 = .ok (.aload_n 0, 1) := by decide +kernel
theorem dX10_way_25 : decode cX10_way 25 = .ok (.getfield 7, 3) := by decide +kernel
theorem dX10_way_28 : decode cX10_way 28 = .ok (.iload_n 3, 1) := by decide +kernel
theorem dX10_way_29 : decode cX10_way 29 = .ok (.iconst 4, 1) := by decide +kernel
theorem dX10_way_30 : decode cX10_way 30 = .ok (.iadd, 1) := by decide +kernel
theorem dX10_way_31 : decode cX10_way 31 = .ok (.iaload, 1) := by decide +kernel
theorem dX10_way_32 : decode cX10_way 32 = .ok (.if_icmp .ge 16, 3) := by decide +kernel
theorem dX10_way_35 : decode cX10_way 35 = .ok (.aload_n 0, 1) := by decide +kernel
theorem dX10_way_36 : decode cX10_way 36 = .ok (.getfield 7, 3) := by decide +kernel
theorem dX10_way_39 : decode cX10_way 39 = .ok (.iload_n 3, 1) := by decide +kernel
theorem dX10_way_40 : decode cX10_way 40 = .ok (.iconst 5, 1) := by decide +kernel
theorem dX10_way_41 : decode cX10_way 41 = .ok (.iadd, 1) := by decide +kernel
theorem dX10_way_42 : decode cX10_way 42 = .ok (.iload_n 2, 1) := by decide +kernel
theorem dX10_way_43 : decode cX10_way 43 = .ok (.iadd, 1) := by decide +kernel
theorem dX10_way_44 : decode cX10_way 44 = .ok (.iaload, 1) := by decide +kernel
theorem dX10_way_45 : decode cX10_way 45 = .ok (.goto 5, 3) := by decide +kernel
theorem dX10_way_48 : decode cX10_way 48 = .ok (.bipush (-9), 2) := by decide +kernel
theorem dX10_way_50 : decode cX10_way 50 = .ok (.ireturn, 1) := by decide +kernel
theorem dX10_called_0 : decode cX10_called 0 = .ok (.aload_n 0, 1) := by decide +kernel
theorem dX10_called_1 : decode cX10_called 1 = .ok (.iload_n 1, 1) := by decide +kernel
theorem dX10_called_2 : decode cX10_called 2 = .ok (.invokevirtual 164, 3) := by decide +kernel
theorem dX10_called_5 : decode cX10_called 5 = .ok (.ifCond .eq 21, 3) := by decide +kernel
theorem dX10_called_8 : decode cX10_called 8 = .ok (.aload_n 0, 1) := by decide +kernel
theorem dX10_called_9 : decode cX10_called 9 = .ok (.getfield 7, 3) := by decide +kernel
theorem dX10_called_12 : decode cX10_called 12 = .ok (.sipush 420, 3) := by decide +kernel
theorem dX10_called_15 : decode cX10_called 15 = .ok (.bipush 14, 2) := by decide +kernel
theorem dX10_called_17 : decode cX10_called 17 = .ok (.iload_n 1, 1) := by decide +kernel
theorem dX10_called_18 : decode cX10_called 18 = .ok (.imul, 1) := by decide +kernel
theorem dX10_called_19 : decode cX10_called 19 = .ok (.iadd, 1) := by decide +kernel
theorem dX10_called_20 : decode cX10_called 20 = .ok (.iconst 1, 1) := by decide +kernel
theorem dX10_called_21 : decode cX10_called 21 = .ok (.iadd, 1) := by decide +kernel
theorem dX10_called_22 : decode cX10_called 22 = .ok (.iaload, 1) := by decide +kernel
theorem dX10_called_23 : decode cX10_called 23 = .ok (.goto 4, 3) := by decide +kernel
theorem dX10_called_26 : decode cX10_called 26 = .ok (.iconst (-1), 1) := by decide +kernel
theorem dX10_called_27 : decode cX10_called 27 = .ok (.ireturn, 1) := by decide +kernel
theorem dX10_owes_0 : decode cX10_owes 0 = .ok (.aload_n 0, 1) := by decide +kernel
theorem dX10_owes_1 : decode cX10_owes 1 = .ok (.iload_n 1, 1) := by decide +kernel
theorem dX10_owes_2 : decode cX10_owes 2 = .ok (.invokevirtual 79, 3) := by decide +kernel
theorem dX10_owes_5 : decode cX10_owes 5 = .ok (.ifCond .eq 29, 3) := by decide +kernel
theorem dX10_owes_8 : decode cX10_owes 8 = .ok (.aload_n 0, 1) := by decide +kernel
theorem dX10_owes_9 : decode cX10_owes 9 = .ok (.iload_n 2, 1) := by decide +kernel
theorem dX10_owes_10 : decode cX10_owes 10 = .ok (.invokevirtual 79, 3) := by decide +kernel
theorem dX10_owes_13 : decode cX10_owes 13 = .ok (.ifCond .eq 21, 3) := by decide +kernel
theorem dX10_owes_16 : decode cX10_owes 16 = .ok (.aload_n 0, 1) := by decide +kernel
theorem dX10_owes_17 : decode cX10_owes 17 = .ok (.getfield 7, 3) := by decide +kernel
theorem dX10_owes_20 : decode cX10_owes 20 = .ok (.sipush 570, 3) := by decide +kernel
theorem dX10_owes_23 : decode cX10_owes 23 = .ok (.bipush 8, 2) := by decide +kernel
theorem dX10_owes_25 : decode cX10_owes 25 = .ok (.iload_n 1, 1) := by decide +kernel
theorem dX10_owes_26 : decode cX10_owes 26 = .ok (.imul, 1) := by decide +kernel
theorem dX10_owes_27 : decode cX10_owes 27 = .ok (.iadd, 1) := by decide +kernel
theorem dX10_owes_28 : decode cX10_owes 28 = .ok (.iload_n 2, 1) := by decide +kernel
theorem dX10_owes_29 : decode cX10_owes 29 = .ok (.iadd, 1) := by decide +kernel
theorem dX10_owes_30 : decode cX10_owes 30 = .ok (.iaload, 1) := by decide +kernel
theorem dX10_owes_31 : decode cX10_owes 31 = .ok (.goto 4, 3) := by decide +kernel
theorem dX10_owes_34 : decode cX10_owes 34 = .ok (.iconst (-1), 1) := by decide +kernel
theorem dX10_owes_35 : decode cX10_owes 35 = .ok (.ireturn, 1) := by decide +kernel
theorem dX10_attempts_0 : decode cX10_attempts 0 = .ok (.aload_n 0, 1) := by decide +kernel
theorem dX10_attempts_1 : decode cX10_attempts 1 = .ok (.getfield 133, 3) := by decide +kernel
theorem dX10_attempts_4 : decode cX10_attempts 4 = .ok (.ireturn, 1) := by decide +kernel
theorem dX10_attempt_0 : decode cX10_attempt 0 = .ok (.iload_n 1, 1) := by decide +kernel
theorem dX10_attempt_1 : decode cX10_attempt 1 = .ok (.iconst 0, 1) := by decide +kernel
theorem dX10_attempt_2 : decode cX10_attempt 2 = .ok (.aload_n 0, 1) := by decide +kernel
theorem dX10_attempt_3 : decode cX10_attempt 3 = .ok (.getfield 133, 3) := by decide +kernel
theorem dX10_attempt_6 : decode cX10_attempt 6 = .ok (.iconst 1, 1) := by decide +kernel
theorem dX10_attempt_7 : decode cX10_attempt 7 = .ok (.isub, 1) := by decide +kernel
theorem dX10_attempt_8 : decode cX10_attempt 8 = .ok (.invokestatic 66, 3) := by decide +kernel
theorem dX10_attempt_11 : decode cX10_attempt 11 = .ok (.ifCond .eq 34, 3) := by decide +kernel
theorem dX10_attempt_14 : decode cX10_attempt 14 = .ok (.iload_n 2, 1) := by decide +kernel
theorem dX10_attempt_15 : decode cX10_attempt 15 = .ok (.iconst 0, 1) := by decide +kernel
theorem dX10_attempt_16 : decode cX10_attempt 16 = .ok (.iconst 1, 1) := by decide +kernel
theorem dX10_attempt_17 : decode cX10_attempt 17 = .ok (.invokestatic 66, 3) := by decide +kernel
theorem dX10_attempt_20 : decode cX10_attempt 20 = .ok (.ifCond .eq 25, 3) := by decide +kernel
theorem dX10_attempt_23 : decode cX10_attempt 23 = .ok (.iload_n 2, 1) := by decide +kernel
theorem dX10_attempt_24 : decode cX10_attempt 24 = .ok (.ifCond .ne 12, 3) := by decide +kernel
theorem dX10_attempt_27 : decode cX10_attempt 27 = .ok (.aload_n 0, 1) := by decide +kernel
theorem dX10_attempt_28 : decode cX10_attempt 28 = .ok (.getfield 40, 3) := by decide +kernel
theorem dX10_attempt_31 : decode cX10_attempt 31 = .ok (.iload_n 1, 1) := by decide +kernel
theorem dX10_attempt_32 : decode cX10_attempt 32 = .ok (.iaload, 1) := by decide +kernel
theorem dX10_attempt_33 : decode cX10_attempt 33 = .ok (.goto 13, 3) := by decide +kernel
theorem dX10_attempt_36 : decode cX10_attempt 36 = .ok (.aload_n 0, 1) := by decide +kernel
theorem dX10_attempt_37 : decode cX10_attempt 37 = .ok (.getfield 43, 3) := by decide +kernel
theorem dX10_attempt_40 : decode cX10_attempt 40 = .ok (.iload_n 1, 1) := by decide +kernel
theorem dX10_attempt_41 : decode cX10_attempt 41 = .ok (.iaload, 1) := by decide +kernel
theorem dX10_attempt_42 : decode cX10_attempt 42 = .ok (.goto 4, 3) := by decide +kernel
theorem dX10_attempt_45 : decode cX10_attempt 45 = .ok (.iconst (-1), 1) := by decide +kernel
theorem dX10_attempt_46 : decode cX10_attempt 46 = .ok (.ireturn, 1) := by decide +kernel
theorem dX10_costsTo_0 : decode cX10_costsTo 0 = .ok (.iconst 0, 1) := by decide +kernel
theorem dX10_costsTo_1 : decode cX10_costsTo 1 = .ok (.istore_n 3, 1) := by decide +kernel
theorem dX10_costsTo_2 : decode cX10_costsTo 2 = .ok (.iconst 0, 1) := by decide +kernel
theorem dX10_costsTo_3 : decode cX10_costsTo 3 = .ok (.istore 4, 2) := by decide +kernel
theorem dX10_costsTo_5 : decode cX10_costsTo 5 = .ok (.iload 4, 2) := by decide +kernel
theorem dX10_costsTo_7 : decode cX10_costsTo 7 = .ok (.iload_n 1, 1) := by decide +kernel
theorem dX10_costsTo_8 : decode cX10_costsTo 8 = .ok (.if_icmp .gt 35, 3) := by decide +kernel
theorem dX10_costsTo_11 : decode cX10_costsTo 11 = .ok (.iload_n 3, 1) := by decide +kernel
theorem dX10_costsTo_12 : decode cX10_costsTo 12 = .ok (.aload_n 0, 1) := by decide +kernel
theorem dX10_costsTo_13 : decode cX10_costsTo 13 = .ok (.aload_n 0, 1) := by decide +kernel
theorem dX10_costsTo_14 : decode cX10_costsTo 14 = .ok (.getfield 28, 3) := by decide +kernel
theorem dX10_costsTo_17 : decode cX10_costsTo 17 = .ok (.bipush 40, 2) := by decide +kernel
theorem dX10_costsTo_19 : decode cX10_costsTo 19 = .ok (.iload 4, 2) := by decide +kernel
theorem dX10_costsTo_21 : decode cX10_costsTo 21 = .ok (.imul, 1) := by decide +kernel
theorem dX10_costsTo_22 : decode cX10_costsTo 22 = .ok (.aload_n 0, 1) := by decide +kernel
theorem dX10_costsTo_23 : decode cX10_costsTo 23 = .ok (.getfield 34, 3) := by decide +kernel
theorem dX10_costsTo_26 : decode cX10_costsTo 26 = .ok (.iload 4, 2) := by decide +kernel
theorem dX10_costsTo_28 : decode cX10_costsTo 28 = .ok (.iaload, 1) := by decide +kernel
theorem dX10_costsTo_29 : decode cX10_costsTo 29 = .ok (.iadd, 1) := by decide +kernel
theorem dX10_costsTo_30 : decode cX10_costsTo 30 = .ok (.iaload, 1) := by decide +kernel
theorem dX10_costsTo_31 : decode cX10_costsTo 31 = .ok (.iload_n 2, 1) := by decide +kernel
theorem dX10_costsTo_32 : decode cX10_costsTo 32 = .ok (.invokevirtual 167, 3) := by decide +kernel
theorem dX10_costsTo_35 : decode cX10_costsTo 35 = .ok (.iadd, 1) := by decide +kernel
theorem dX10_costsTo_36 : decode cX10_costsTo 36 = .ok (.istore_n 3, 1) := by decide +kernel
theorem dX10_costsTo_37 : decode cX10_costsTo 37 = .ok (.iinc 4 1, 3) := by decide +kernel
theorem dX10_costsTo_40 : decode cX10_costsTo 40 = .ok (.goto (-35), 3) := by decide +kernel
theorem dX10_costsTo_43 : decode cX10_costsTo 43 = .ok (.iload_n 3, 1) := by decide +kernel
theorem dX10_costsTo_44 : decode cX10_costsTo 44 = .ok (.ireturn, 1) := by decide +kernel
theorem dX10_cheapest_0 : decode cX10_cheapest 0 = .ok (.aload_n 0, 1) := by decide +kernel
theorem dX10_cheapest_1 : decode cX10_cheapest 1 = .ok (.iload_n 1, 1) := by decide +kernel
theorem dX10_cheapest_2 : decode cX10_cheapest 2 = .ok (.invokevirtual 79, 3) := by decide +kernel
theorem dX10_cheapest_5 : decode cX10_cheapest 5 = .ok (.ifCond .eq 10, 3) := by decide +kernel
theorem dX10_cheapest_8 : decode cX10_cheapest 8 = .ok (.iload_n 2, 1) := by decide +kernel
theorem dX10_cheapest_9 : decode cX10_cheapest 9 = .ok (.invokestatic 97, 3) := by decide +kernel
theorem dX10_cheapest_12 : decode cX10_cheapest 12 = .ok (.ifCond .ne 5, 3) := by decide +kernel
theorem dX10_cheapest_15 : decode cX10_cheapest 15 = .ok (.iconst (-1), 1) := by decide +kernel
theorem dX10_cheapest_16 : decode cX10_cheapest 16 = .ok (.ireturn, 1) := by decide +kernel
theorem dX10_cheapest_17 : decode cX10_cheapest 17 = .ok (.aload_n 0, 1) := by decide +kernel
theorem dX10_cheapest_18 : decode cX10_cheapest 18 = .ok (.aload_n 0, 1) := by decide +kernel
theorem dX10_cheapest_19 : decode cX10_cheapest 19 = .ok (.getfield 7, 3) := by decide +kernel
theorem dX10_cheapest_22 : decode cX10_cheapest 22 = .ok (.iconst 4, 1) := by decide +kernel
theorem dX10_cheapest_23 : decode cX10_cheapest 23 = .ok (.iaload, 1) := by decide +kernel
theorem dX10_cheapest_24 : decode cX10_cheapest 24 = .ok (.invokevirtual 116, 3) := by decide +kernel
theorem dX10_cheapest_27 : decode cX10_cheapest 27 = .ok (.istore_n 3, 1) := by decide +kernel
theorem dX10_cheapest_28 : decode cX10_cheapest 28 = .ok (.aload_n 0, 1) := by decide +kernel
theorem dX10_cheapest_29 : decode cX10_cheapest 29 = .ok (.iconst (-1), 1) := by decide +kernel
theorem dX10_cheapest_30 : decode cX10_cheapest 30 = .ok (.putfield 119, 3) := by decide +kernel
theorem dX10_cheapest_33 : decode cX10_cheapest 33 = .ok (.bipush (-9), 2) := by decide +kernel
theorem dX10_cheapest_35 : decode cX10_cheapest 35 = .ok (.istore 4, 2) := by decide +kernel
theorem dX10_cheapest_37 : decode cX10_cheapest 37 = .ok (.aload_n 0, 1) := by decide +kernel
theorem dX10_cheapest_38 : decode cX10_cheapest 38 = .ok (.iload_n 1, 1) := by decide +kernel
theorem dX10_cheapest_39 : decode cX10_cheapest 39 = .ok (.iload_n 2, 1) := by decide +kernel
theorem dX10_cheapest_40 : decode cX10_cheapest 40 = .ok (.iconst (-1), 1) := by decide +kernel
theorem dX10_cheapest_41 : decode cX10_cheapest 41 = .ok (.invokevirtual 139, 3) := by decide +kernel
theorem dX10_cheapest_44 : decode cX10_cheapest 44 = .ok (.istore 5, 2) := by decide +kernel
theorem dX10_cheapest_46 : decode cX10_cheapest 46 = .ok (.iload 5, 2) := by decide +kernel
theorem dX10_cheapest_48 : decode cX10_cheapest 48 = .ok (.ifCond .ne 5, 3) := by decide +kernel
theorem dX10_cheapest_51 : decode cX10_cheapest 51 = .ok (.iconst 0, 1) := by decide +kernel
theorem dX10_cheapest_52 : decode cX10_cheapest 52 = .ok (.ireturn, 1) := by decide +kernel
theorem dX10_cheapest_53 : decode cX10_cheapest 53 = .ok (.aload_n 0, 1) := by decide +kernel
theorem dX10_cheapest_54 : decode cX10_cheapest 54 = .ok (.getfield 119, 3) := by decide +kernel
theorem dX10_cheapest_57 : decode cX10_cheapest 57 = .ok (.ifCond .lt 164, 3) := by decide +kernel
theorem dX10_cheapest_60 : decode cX10_cheapest 60 = .ok (.aload_n 0, 1) := by decide +kernel
theorem dX10_cheapest_61 : decode cX10_cheapest 61 = .ok (.getfield 34, 3) := by decide +kernel
theorem dX10_cheapest_64 : decode cX10_cheapest 64 = .ok (.aload_n 0, 1) := by decide +kernel
theorem dX10_cheapest_65 : decode cX10_cheapest 65 = .ok (.getfield 119, 3) := by decide +kernel
theorem dX10_cheapest_68 : decode cX10_cheapest 68 = .ok (.iaload, 1) := by decide +kernel
theorem dX10_cheapest_69 : decode cX10_cheapest 69 = .ok (.aload_n 0, 1) := by decide +kernel
theorem dX10_cheapest_70 : decode cX10_cheapest 70 = .ok (.getfield 31, 3) := by decide +kernel
theorem dX10_cheapest_73 : decode cX10_cheapest 73 = .ok (.aload_n 0, 1) := by decide +kernel
theorem dX10_cheapest_74 : decode cX10_cheapest 74 = .ok (.getfield 119, 3) := by decide +kernel
theorem dX10_cheapest_77 : decode cX10_cheapest 77 = .ok (.iaload, 1) := by decide +kernel
theorem dX10_cheapest_78 : decode cX10_cheapest 78 = .ok (.if_icmp .ne 36, 3) := by decide +kernel
theorem dX10_cheapest_81 : decode cX10_cheapest 81 = .ok (.aload_n 0, 1) := by decide +kernel
theorem dX10_cheapest_82 : decode cX10_cheapest 82 = .ok (.dup, 1) := by decide +kernel
theorem dX10_cheapest_83 : decode cX10_cheapest 83 = .ok (.getfield 119, 3) := by decide +kernel
theorem dX10_cheapest_86 : decode cX10_cheapest 86 = .ok (.iconst 1, 1) := by decide +kernel
theorem dX10_cheapest_87 : decode cX10_cheapest 87 = .ok (.isub, 1) := by decide +kernel
theorem dX10_cheapest_88 : decode cX10_cheapest 88 = .ok (.putfield 119, 3) := by decide +kernel
theorem dX10_cheapest_91 : decode cX10_cheapest 91 = .ok (.aload_n 0, 1) := by decide +kernel
theorem dX10_cheapest_92 : decode cX10_cheapest 92 = .ok (.getfield 119, 3) := by decide +kernel
theorem dX10_cheapest_95 : decode cX10_cheapest 95 = .ok (.ifCond .lt (-42), 3) := by decide +kernel
theorem dX10_cheapest_98 : decode cX10_cheapest 98 = .ok (.aload_n 0, 1) := by decide +kernel
theorem dX10_cheapest_99 : decode cX10_cheapest 99 = .ok (.getfield 34, 3) := by decide +kernel
theorem dX10_cheapest_102 : decode cX10_cheapest 102 = .ok (.aload_n 0, 1) := by decide +kernel
theorem dX10_cheapest_103 : decode cX10_cheapest 103 = .ok (.getfield 119, 3) := by decide +kernel
theorem dX10_cheapest_106 : decode cX10_cheapest 106 = .ok (.dup2, 1) := by decide +kernel
theorem dX10_cheapest_107 : decode cX10_cheapest 107 = .ok (.iaload, 1) := by decide +kernel
theorem dX10_cheapest_108 : decode cX10_cheapest 108 = .ok (.iconst 1, 1) := by decide +kernel
theorem dX10_cheapest_109 : decode cX10_cheapest 109 = .ok (.iadd, 1) := by decide +kernel
theorem dX10_cheapest_110 : decode cX10_cheapest 110 = .ok (.iastore, 1) := by decide +kernel
theorem dX10_cheapest_111 : decode cX10_cheapest 111 = .ok (.goto (-58), 3) := by decide +kernel
theorem dX10_cheapest_114 : decode cX10_cheapest 114 = .ok (.aload_n 0, 1) := by decide +kernel
theorem dX10_cheapest_115 : decode cX10_cheapest 115 = .ok (.invokevirtual 129, 3) := by decide +kernel
theorem dX10_cheapest_118 : decode cX10_cheapest 118 = .ok (.istore 6, 2) := by decide +kernel
theorem dX10_cheapest_120 : decode cX10_cheapest 120 = .ok (.aload_n 0, 1) := by decide +kernel
theorem dX10_cheapest_121 : decode cX10_cheapest 121 = .ok (.getfield 119, 3) := by decide +kernel
theorem dX10_cheapest_124 : decode cX10_cheapest 124 = .ok (.istore 7, 2) := by decide +kernel
theorem dX10_cheapest_126 : decode cX10_cheapest 126 = .ok (.aload_n 0, 1) := by decide +kernel
theorem dX10_cheapest_127 : decode cX10_cheapest 127 = .ok (.iload 6, 2) := by decide +kernel
theorem dX10_cheapest_129 : decode cX10_cheapest 129 = .ok (.invokevirtual 75, 3) := by decide +kernel
theorem dX10_cheapest_132 : decode cX10_cheapest 132 = .ok (.ifCond .eq 7, 3) := by decide +kernel
theorem dX10_cheapest_135 : decode cX10_cheapest 135 = .ok (.iconst 0, 1) := by decide +kernel
theorem dX10_cheapest_136 : decode cX10_cheapest 136 = .ok (.goto 24, 3) := by decide +kernel
theorem dX10_cheapest_139 : decode cX10_cheapest 139 = .ok (.aload_n 0, 1) := by decide +kernel
theorem dX10_cheapest_140 : decode cX10_cheapest 140 = .ok (.aload_n 0, 1) := by decide +kernel
theorem dX10_cheapest_141 : decode cX10_cheapest 141 = .ok (.iload 6, 2) := by decide +kernel
theorem dX10_cheapest_143 : decode cX10_cheapest 143 = .ok (.iconst 2, 1) := by decide +kernel
theorem dX10_cheapest_144 : decode cX10_cheapest 144 = .ok (.invokevirtual 71, 3) := by decide +kernel
theorem dX10_cheapest_147 : decode cX10_cheapest 147 = .ok (.iload_n 2, 1) := by decide +kernel
theorem dX10_cheapest_148 : decode cX10_cheapest 148 = .ok (.aload_n 0, 1) := by decide +kernel
theorem dX10_cheapest_149 : decode cX10_cheapest 149 = .ok (.getfield 25, 3) := by decide +kernel
theorem dX10_cheapest_152 : decode cX10_cheapest 152 = .ok (.aload_n 0, 1) := by decide +kernel
theorem dX10_cheapest_153 : decode cX10_cheapest 153 = .ok (.getfield 119, 3) := by decide +kernel
theorem dX10_cheapest_156 : decode cX10_cheapest 156 = .ok (.iaload, 1) := by decide +kernel
theorem dX10_cheapest_157 : decode cX10_cheapest 157 = .ok (.invokevirtual 139, 3) := by decide +kernel
theorem dX10_cheapest_160 : decode cX10_cheapest 160 = .ok (.istore 5, 2) := by decide +kernel
theorem dX10_cheapest_162 : decode cX10_cheapest 162 = .ok (.aload_n 0, 1) := by decide +kernel
theorem dX10_cheapest_163 : decode cX10_cheapest 163 = .ok (.iload 7, 2) := by decide +kernel
theorem dX10_cheapest_165 : decode cX10_cheapest 165 = .ok (.iload_n 3, 1) := by decide +kernel
theorem dX10_cheapest_166 : decode cX10_cheapest 166 = .ok (.invokevirtual 171, 3) := by decide +kernel
theorem dX10_cheapest_169 : decode cX10_cheapest 169 = .ok (.istore 8, 2) := by decide +kernel
theorem dX10_cheapest_171 : decode cX10_cheapest 171 = .ok (.iload 5, 2) := by decide +kernel
theorem dX10_cheapest_173 : decode cX10_cheapest 173 = .ok (.ifCond .ne 20, 3) := by decide +kernel
theorem dX10_cheapest_176 : decode cX10_cheapest 176 = .ok (.iload 4, 2) := by decide +kernel
theorem dX10_cheapest_178 : decode cX10_cheapest 178 = .ok (.ifCond .lt 10, 3) := by decide +kernel
theorem dX10_cheapest_181 : decode cX10_cheapest 181 = .ok (.iload 8, 2) := by decide +kernel
theorem dX10_cheapest_183 : decode cX10_cheapest 183 = .ok (.iload 4, 2) := by decide +kernel
theorem dX10_cheapest_185 : decode cX10_cheapest 185 = .ok (.if_icmp .ge 8, 3) := by decide +kernel
theorem dX10_cheapest_188 : decode cX10_cheapest 188 = .ok (.iload 8, 2) := by decide +kernel
theorem dX10_cheapest_190 : decode cX10_cheapest 190 = .ok (.goto 5, 3) := by decide +kernel
theorem dX10_cheapest_193 : decode cX10_cheapest 193 = .ok (.iload 4, 2) := by decide +kernel
theorem dX10_cheapest_195 : decode cX10_cheapest 195 = .ok (.istore 4, 2) := by decide +kernel
theorem dX10_cheapest_197 : decode cX10_cheapest 197 = .ok (.aload_n 0, 1) := by decide +kernel
theorem dX10_cheapest_198 : decode cX10_cheapest 198 = .ok (.getfield 34, 3) := by decide +kernel
theorem dX10_cheapest_201 : decode cX10_cheapest 201 = .ok (.iload 7, 2) := by decide +kernel
theorem dX10_cheapest_203 : decode cX10_cheapest 203 = .ok (.dup2, 1) := by decide +kernel
theorem dX10_cheapest_204 : decode cX10_cheapest 204 = .ok (.iaload, 1) := by decide +kernel
theorem dX10_cheapest_205 : decode cX10_cheapest 205 = .ok (.iload 5, 2) := by decide +kernel
theorem dX10_cheapest_207 : decode cX10_cheapest 207 = .ok (.iconst (-1), 1) := by decide +kernel
theorem dX10_cheapest_208 : decode cX10_cheapest 208 = .ok (.if_icmp .ne 7, 3) := by decide +kernel
theorem dX10_cheapest_211 : decode cX10_cheapest 211 = .ok (.iconst 0, 1) := by decide +kernel
theorem dX10_cheapest_212 : decode cX10_cheapest 212 = .ok (.goto 4, 3) := by decide +kernel
theorem dX10_cheapest_215 : decode cX10_cheapest 215 = .ok (.iconst 1, 1) := by decide +kernel
theorem dX10_cheapest_216 : decode cX10_cheapest 216 = .ok (.iadd, 1) := by decide +kernel
theorem dX10_cheapest_217 : decode cX10_cheapest 217 = .ok (.iastore, 1) := by decide +kernel
theorem dX10_cheapest_218 : decode cX10_cheapest 218 = .ok (.goto (-165), 3) := by decide +kernel
theorem dX10_cheapest_221 : decode cX10_cheapest 221 = .ok (.iload 4, 2) := by decide +kernel
theorem dX10_cheapest_223 : decode cX10_cheapest 223 = .ok (.ireturn, 1) := by decide +kernel
theorem dX10_type_0 : decode cX10_type 0 = .ok (.iload_n 1, 1) := by decide +kernel
theorem dX10_type_1 : decode cX10_type 1 = .ok (.bipush 32, 2) := by decide +kernel
theorem dX10_type_3 : decode cX10_type 3 = .ok (.bipush 126, 2) := by decide +kernel
theorem dX10_type_5 : decode cX10_type 5 = .ok (.invokestatic 66, 3) := by decide +kernel
theorem dX10_type_8 : decode cX10_type 8 = .ok (.ifCond .ne 5, 3) := by decide +kernel
theorem dX10_type_11 : decode cX10_type 11 = .ok (.iconst (-1), 1) := by decide +kernel
theorem dX10_type_12 : decode cX10_type 12 = .ok (.ireturn, 1) := by decide +kernel
theorem dX10_type_13 : decode cX10_type 13 = .ok (.aload_n 0, 1) := by decide +kernel
theorem dX10_type_14 : decode cX10_type 14 = .ok (.getfield 174, 3) := by decide +kernel
theorem dX10_type_17 : decode cX10_type 17 = .ok (.bipush 80, 2) := by decide +kernel
theorem dX10_type_19 : decode cX10_type 19 = .ok (.if_icmp .ne 6, 3) := by decide +kernel
theorem dX10_type_22 : decode cX10_type 22 = .ok (.bipush (-3), 2) := by decide +kernel
theorem dX10_type_24 : decode cX10_type 24 = .ok (.ireturn, 1) := by decide +kernel
theorem dX10_type_25 : decode cX10_type 25 = .ok (.aload_n 0, 1) := by decide +kernel
theorem dX10_type_26 : decode cX10_type 26 = .ok (.getfield 49, 3) := by decide +kernel
theorem dX10_type_29 : decode cX10_type 29 = .ok (.aload_n 0, 1) := by decide +kernel
theorem dX10_type_30 : decode cX10_type 30 = .ok (.getfield 174, 3) := by decide +kernel
theorem dX10_type_33 : decode cX10_type 33 = .ok (.iload_n 1, 1) := by decide +kernel
theorem dX10_type_34 : decode cX10_type 34 = .ok (.iastore, 1) := by decide +kernel
theorem dX10_type_35 : decode cX10_type 35 = .ok (.aload_n 0, 1) := by decide +kernel
theorem dX10_type_36 : decode cX10_type 36 = .ok (.dup, 1) := by decide +kernel
theorem dX10_type_37 : decode cX10_type 37 = .ok (.getfield 174, 3) := by decide +kernel
theorem dX10_type_40 : decode cX10_type 40 = .ok (.iconst 1, 1) := by decide +kernel
theorem dX10_type_41 : decode cX10_type 41 = .ok (.iadd, 1) := by decide +kernel
theorem dX10_type_42 : decode cX10_type 42 = .ok (.putfield 174, 3) := by decide +kernel
theorem dX10_type_45 : decode cX10_type 45 = .ok (.aload_n 0, 1) := by decide +kernel
theorem dX10_type_46 : decode cX10_type 46 = .ok (.getfield 174, 3) := by decide +kernel
theorem dX10_type_49 : decode cX10_type 49 = .ok (.ireturn, 1) := by decide +kernel
theorem dX10_clear_0 : decode cX10_clear 0 = .ok (.aload_n 0, 1) := by decide +kernel
theorem dX10_clear_1 : decode cX10_clear 1 = .ok (.getfield 174, 3) := by decide +kernel
theorem dX10_clear_4 : decode cX10_clear 4 = .ok (.istore_n 1, 1) := by decide +kernel
theorem dX10_clear_5 : decode cX10_clear 5 = .ok (.aload_n 0, 1) := by decide +kernel
theorem dX10_clear_6 : decode cX10_clear 6 = .ok (.iconst 0, 1) := by decide +kernel
theorem dX10_clear_7 : decode cX10_clear 7 = .ok (.putfield 174, 3) := by decide +kernel
theorem dX10_clear_10 : decode cX10_clear 10 = .ok (.iload_n 1, 1) := by decide +kernel
theorem dX10_clear_11 : decode cX10_clear 11 = .ok (.ireturn, 1) := by decide +kernel
theorem dX10_sign_0 : decode cX10_sign 0 = .ok (.aload_n 0, 1) := by decide +kernel
theorem dX10_sign_1 : decode cX10_sign 1 = .ok (.getfield 177, 3) := by decide +kernel
theorem dX10_sign_4 : decode cX10_sign 4 = .ok (.aload_n 0, 1) := by decide +kernel
theorem dX10_sign_5 : decode cX10_sign 5 = .ok (.getfield 174, 3) := by decide +kernel
theorem dX10_sign_8 : decode cX10_sign 8 = .ok (.if_icmp .ge 15, 3) := by decide +kernel
theorem dX10_sign_11 : decode cX10_sign 11 = .ok (.aload_n 0, 1) := by decide +kernel
theorem dX10_sign_12 : decode cX10_sign 12 = .ok (.getfield 49, 3) := by decide +kernel
theorem dX10_sign_15 : decode cX10_sign 15 = .ok (.aload_n 0, 1) := by decide +kernel
theorem dX10_sign_16 : decode cX10_sign 16 = .ok (.getfield 177, 3) := by decide +kernel
theorem dX10_sign_19 : decode cX10_sign 19 = .ok (.iaload, 1) := by decide +kernel
theorem dX10_sign_20 : decode cX10_sign 20 = .ok (.goto 4, 3) := by decide +kernel
theorem dX10_sign_23 : decode cX10_sign 23 = .ok (.iconst (-1), 1) := by decide +kernel
theorem dX10_sign_24 : decode cX10_sign 24 = .ok (.ireturn, 1) := by decide +kernel
theorem dX10_takes_0 : decode cX10_takes 0 = .ok (.aload_n 0, 1) := by decide +kernel
theorem dX10_takes_1 : decode cX10_takes 1 = .ok (.invokevirtual 180, 3) := by decide +kernel
theorem dX10_takes_4 : decode cX10_takes 4 = .ok (.iload_n 1, 1) := by decide +kernel
theorem dX10_takes_5 : decode cX10_takes 5 = .ok (.if_icmp .ne 7, 3) := by decide +kernel
theorem dX10_takes_8 : decode cX10_takes 8 = .ok (.iconst 1, 1) := by decide +kernel
theorem dX10_takes_9 : decode cX10_takes 9 = .ok (.goto 4, 3) := by decide +kernel
theorem dX10_takes_12 : decode cX10_takes 12 = .ok (.iconst 0, 1) := by decide +kernel
theorem dX10_takes_13 : decode cX10_takes 13 = .ok (.istore_n 2, 1) := by decide +kernel
theorem dX10_takes_14 : decode cX10_takes 14 = .ok (.aload_n 0, 1) := by decide +kernel
theorem dX10_takes_15 : decode cX10_takes 15 = .ok (.dup, 1) := by decide +kernel
theorem dX10_takes_16 : decode cX10_takes 16 = .ok (.getfield 177, 3) := by decide +kernel
theorem dX10_takes_19 : decode cX10_takes 19 = .ok (.iload_n 2, 1) := by decide +kernel
theorem dX10_takes_20 : decode cX10_takes 20 = .ok (.ifCond .eq 7, 3) := by decide +kernel
theorem dX10_takes_23 : decode cX10_takes 23 = .ok (.iconst 1, 1) := by decide +kernel
theorem dX10_takes_24 : decode cX10_takes 24 = .ok (.goto 4, 3) := by decide +kernel
theorem dX10_takes_27 : decode cX10_takes 27 = .ok (.iconst 0, 1) := by decide +kernel
theorem dX10_takes_28 : decode cX10_takes 28 = .ok (.iadd, 1) := by decide +kernel
theorem dX10_takes_29 : decode cX10_takes 29 = .ok (.putfield 177, 3) := by decide +kernel
theorem dX10_takes_32 : decode cX10_takes 32 = .ok (.iload_n 2, 1) := by decide +kernel
theorem dX10_takes_33 : decode cX10_takes 33 = .ok (.ireturn, 1) := by decide +kernel
theorem dX10_reads_0 : decode cX10_reads 0 = .ok (.iconst 0, 1) := by decide +kernel
theorem dX10_reads_1 : decode cX10_reads 1 = .ok (.istore 5, 2) := by decide +kernel
theorem dX10_reads_3 : decode cX10_reads 3 = .ok (.iconst 0, 1) := by decide +kernel
theorem dX10_reads_4 : decode cX10_reads 4 = .ok (.istore 6, 2) := by decide +kernel
theorem dX10_reads_6 : decode cX10_reads 6 = .ok (.iload 5, 2) := by decide +kernel
theorem dX10_reads_8 : decode cX10_reads 8 = .ok (.iload_n 3, 1) := by decide +kernel
theorem dX10_reads_9 : decode cX10_reads 9 = .ok (.if_icmp .ge 63, 3) := by decide +kernel
theorem dX10_reads_12 : decode cX10_reads 12 = .ok (.aload_n 0, 1) := by decide +kernel
theorem dX10_reads_13 : decode cX10_reads 13 = .ok (.invokevirtual 180, 3) := by decide +kernel
theorem dX10_reads_16 : decode cX10_reads 16 = .ok (.iload 5, 2) := by decide +kernel
theorem dX10_reads_18 : decode cX10_reads 18 = .ok (.ifCond .ne 13, 3) := by decide +kernel
theorem dX10_reads_21 : decode cX10_reads 21 = .ok (.iload 4, 2) := by decide +kernel
theorem dX10_reads_23 : decode cX10_reads 23 = .ok (.ifCond .ne 8, 3) := by decide +kernel
theorem dX10_reads_26 : decode cX10_reads 26 = .ok (.bipush 49, 2) := by decide +kernel
theorem dX10_reads_28 : decode cX10_reads 28 = .ok (.goto 5, 3) := by decide +kernel
theorem dX10_reads_31 : decode cX10_reads 31 = .ok (.bipush 48, 2) := by decide +kernel
theorem dX10_reads_33 : decode cX10_reads 33 = .ok (.bipush 57, 2) := by decide +kernel
theorem dX10_reads_35 : decode cX10_reads 35 = .ok (.invokestatic 66, 3) := by decide +kernel
theorem dX10_reads_38 : decode cX10_reads 38 = .ok (.ifCond .eq 34, 3) := by decide +kernel
theorem dX10_reads_41 : decode cX10_reads 41 = .ok (.bipush 10, 2) := by decide +kernel
theorem dX10_reads_43 : decode cX10_reads 43 = .ok (.iload 6, 2) := by decide +kernel
theorem dX10_reads_45 : decode cX10_reads 45 = .ok (.imul, 1) := by decide +kernel
theorem dX10_reads_46 : decode cX10_reads 46 = .ok (.aload_n 0, 1) := by decide +kernel
theorem dX10_reads_47 : decode cX10_reads 47 = .ok (.invokevirtual 180, 3) := by decide +kernel
theorem dX10_reads_50 : decode cX10_reads 50 = .ok (.iadd, 1) := by decide +kernel
theorem dX10_reads_51 : decode cX10_reads 51 = .ok (.bipush 48, 2) := by decide +kernel
theorem dX10_reads_53 : decode cX10_reads 53 = .ok (.isub, 1) := by decide +kernel
theorem dX10_reads_54 : decode cX10_reads 54 = .ok (.istore 6, 2) := by decide +kernel
theorem dX10_reads_56 : decode cX10_reads 56 = .ok (.aload_n 0, 1) := by decide +kernel
theorem dX10_reads_57 : decode cX10_reads 57 = .ok (.dup, 1) := by decide +kernel
theorem dX10_reads_58 : decode cX10_reads 58 = .ok (.getfield 177, 3) := by decide +kernel
theorem dX10_reads_61 : decode cX10_reads 61 = .ok (.iconst 1, 1) := by decide +kernel
theorem dX10_reads_62 : decode cX10_reads 62 = .ok (.iadd, 1) := by decide +kernel
theorem dX10_reads_63 : decode cX10_reads 63 = .ok (.putfield 177, 3) := by decide +kernel
theorem dX10_reads_66 : decode cX10_reads 66 = .ok (.iinc 5 1, 3) := by decide +kernel
theorem dX10_reads_69 : decode cX10_reads 69 = .ok (.goto (-63), 3) := by decide +kernel
theorem dX10_reads_72 : decode cX10_reads 72 = .ok (.aload_n 0, 1) := by decide +kernel
theorem dX10_reads_73 : decode cX10_reads 73 = .ok (.getfield 55, 3) := by decide +kernel
theorem dX10_reads_76 : decode cX10_reads 76 = .ok (.iconst 5, 1) := by decide +kernel
theorem dX10_reads_77 : decode cX10_reads 77 = .ok (.aload_n 0, 1) := by decide +kernel
theorem dX10_reads_78 : decode cX10_reads 78 = .ok (.getfield 183, 3) := by decide +kernel
theorem dX10_reads_81 : decode cX10_reads 81 = .ok (.imul, 1) := by decide +kernel
theorem dX10_reads_82 : decode cX10_reads 82 = .ok (.iload_n 1, 1) := by decide +kernel
theorem dX10_reads_83 : decode cX10_reads 83 = .ok (.iadd, 1) := by decide +kernel
theorem dX10_reads_84 : decode cX10_reads 84 = .ok (.iload 6, 2) := by decide +kernel
theorem dX10_reads_86 : decode cX10_reads 86 = .ok (.iastore, 1) := by decide +kernel
theorem dX10_reads_87 : decode cX10_reads 87 = .ok (.iload 5, 2) := by decide +kernel
theorem dX10_reads_89 : decode cX10_reads 89 = .ok (.iload_n 2, 1) := by decide +kernel
theorem dX10_reads_90 : decode cX10_reads 90 = .ok (.if_icmp .lt 7, 3) := by decide +kernel
theorem dX10_reads_93 : decode cX10_reads 93 = .ok (.iconst 1, 1) := by decide +kernel
theorem dX10_reads_94 : decode cX10_reads 94 = .ok (.goto 4, 3) := by decide +kernel
theorem dX10_reads_97 : decode cX10_reads 97 = .ok (.iconst 0, 1) := by decide +kernel
theorem dX10_reads_98 : decode cX10_reads 98 = .ok (.ireturn, 1) := by decide +kernel
theorem dX10_readsCommand_0 : decode cX10_readsCommand 0 = .ok (.aload_n 0, 1) := by decide +kernel
theorem dX10_readsCommand_1 : decode cX10_readsCommand 1 = .ok (.invokevirtual 180, 3) := by decide +kernel
theorem dX10_readsCommand_4 : decode cX10_readsCommand 4 = .ok (.istore_n 1, 1) := by decide +kernel
theorem dX10_readsCommand_5 : decode cX10_readsCommand 5 = .ok (.iload_n 1, 1) := by decide +kernel
theorem dX10_readsCommand_6 : decode cX10_readsCommand 6 = .ok (.bipush 114, 2) := by decide +kernel
theorem dX10_readsCommand_8 : decode cX10_readsCommand 8 = .ok (.if_icmp .eq 17, 3) := by decide +kernel
theorem dX10_readsCommand_11 : decode cX10_readsCommand 11 = .ok (.iload_n 1, 1) := by decide +kernel
theorem dX10_readsCommand_12 : decode cX10_readsCommand 12 = .ok (.bipush 112, 2) := by decide +kernel
theorem dX10_readsCommand_14 : decode cX10_readsCommand 14 = .ok (.if_icmp .eq 11, 3) := by decide +kernel
theorem dX10_readsCommand_17 : decode cX10_readsCommand 17 = .ok (.iload_n 1, 1) := by decide +kernel
theorem dX10_readsCommand_18 : decode cX10_readsCommand 18 = .ok (.bipush 108, 2) := by decide +kernel
theorem dX10_readsCommand_20 : decode cX10_readsCommand 20 = .ok (.if_icmp .eq 5, 3) := by decide +kernel
theorem dX10_readsCommand_23 : decode cX10_readsCommand 23 = .ok (.iconst 0, 1) := by decide +kernel
theorem dX10_readsCommand_24 : decode cX10_readsCommand 24 = .ok (.ireturn, 1) := by decide +kernel
theorem dX10_readsCommand_25 : decode cX10_readsCommand 25 = .ok (.aload_n 0, 1) := by decide +kernel
theorem dX10_readsCommand_26 : decode cX10_readsCommand 26 = .ok (.getfield 52, 3) := by decide +kernel
theorem dX10_readsCommand_29 : decode cX10_readsCommand 29 = .ok (.aload_n 0, 1) := by decide +kernel
theorem dX10_readsCommand_30 : decode cX10_readsCommand 30 = .ok (.getfield 183, 3) := by decide +kernel
theorem dX10_readsCommand_33 : decode cX10_readsCommand 33 = .ok (.iload_n 1, 1) := by decide +kernel
theorem dX10_readsCommand_34 : decode cX10_readsCommand 34 = .ok (.iastore, 1) := by decide +kernel
theorem dX10_readsCommand_35 : decode cX10_readsCommand 35 = .ok (.aload_n 0, 1) := by decide +kernel
theorem dX10_readsCommand_36 : decode cX10_readsCommand 36 = .ok (.dup, 1) := by decide +kernel
theorem dX10_readsCommand_37 : decode cX10_readsCommand 37 = .ok (.getfield 177, 3) := by decide +kernel
theorem dX10_readsCommand_40 : decode cX10_readsCommand 40 = .ok (.iconst 1, 1) := by decide +kernel
theorem dX10_readsCommand_41 : decode cX10_readsCommand 41 = .ok (.iadd, 1) := by decide +kernel
theorem dX10_readsCommand_42 : decode cX10_readsCommand 42 = .ok (.putfield 177, 3) := by decide +kernel
theorem dX10_readsCommand_45 : decode cX10_readsCommand 45 = .ok (.iload_n 1, 1) := by decide +kernel
theorem dX10_readsCommand_46 : decode cX10_readsCommand 46 = .ok (.bipush 108, 2) := by decide +kernel
theorem dX10_readsCommand_48 : decode cX10_readsCommand 48 = .ok (.if_icmp .ne 12, 3) := by decide +kernel
theorem dX10_readsCommand_51 : decode cX10_readsCommand 51 = .ok (.aload_n 0, 1) := by decide +kernel
theorem dX10_readsCommand_52 : decode cX10_readsCommand 52 = .ok (.iconst 0, 1) := by decide +kernel
theorem dX10_readsCommand_53 : decode cX10_readsCommand 53 = .ok (.iconst 1, 1) := by decide +kernel
theorem dX10_readsCommand_54 : decode cX10_readsCommand 54 = .ok (.iconst 1, 1) := by decide +kernel
end
section
theorem dX10_readsCommand_55 : decode cX10_readsCommand 55 = .ok (.iconst 1, 1) := by decide +kernel
theorem dX10_readsCommand_56 : decode cX10_readsCommand 56 = .ok (.invokevirtual 186, 3) := by decide +kernel
theorem dX10_readsCommand_59 : decode cX10_readsCommand 59 = .ok (.ireturn, 1) := by decide +kernel
theorem dX10_readsCommand_60 : decode cX10_readsCommand 60 = .ok (.iload_n 1, 1) := by decide +kernel
theorem dX10_readsCommand_61 : decode cX10_readsCommand 61 = .ok (.bipush 112, 2) := by decide +kernel
theorem dX10_readsCommand_63 : decode cX10_readsCommand 63 = .ok (.if_icmp .ne 41, 3) := by decide +kernel
theorem dX10_readsCommand_66 : decode cX10_readsCommand 66 = .ok (.aload_n 0, 1) := by decide +kernel
theorem dX10_readsCommand_67 : decode cX10_readsCommand 67 = .ok (.iconst 0, 1) := by decide +kernel
theorem dX10_readsCommand_68 : decode cX10_readsCommand 68 = .ok (.iconst 1, 1) := by decide +kernel
theorem dX10_readsCommand_69 : decode cX10_readsCommand 69 = .ok (.bipush 9, 2) := by decide +kernel
theorem dX10_readsCommand_71 : decode cX10_readsCommand 71 = .ok (.iconst 0, 1) := by decide +kernel
theorem dX10_readsCommand_72 : decode cX10_readsCommand 72 = .ok (.invokevirtual 186, 3) := by decide +kernel
theorem dX10_readsCommand_75 : decode cX10_readsCommand 75 = .ok (.ifCond .eq 27, 3) := by decide +kernel
theorem dX10_readsCommand_78 : decode cX10_readsCommand 78 = .ok (.aload_n 0, 1) := by decide +kernel
theorem dX10_readsCommand_79 : decode cX10_readsCommand 79 = .ok (.bipush 62, 2) := by decide +kernel
theorem dX10_readsCommand_81 : decode cX10_readsCommand 81 = .ok (.invokevirtual 190, 3) := by decide +kernel
theorem dX10_readsCommand_84 : decode cX10_readsCommand 84 = .ok (.ifCond .eq 18, 3) := by decide +kernel
theorem dX10_readsCommand_87 : decode cX10_readsCommand 87 = .ok (.aload_n 0, 1) := by decide +kernel
theorem dX10_readsCommand_88 : decode cX10_readsCommand 88 = .ok (.iconst 1, 1) := by decide +kernel
theorem dX10_readsCommand_89 : decode cX10_readsCommand 89 = .ok (.iconst 1, 1) := by decide +kernel
theorem dX10_readsCommand_90 : decode cX10_readsCommand 90 = .ok (.iconst 1, 1) := by decide +kernel
theorem dX10_readsCommand_91 : decode cX10_readsCommand 91 = .ok (.iconst 1, 1) := by decide +kernel
theorem dX10_readsCommand_92 : decode cX10_readsCommand 92 = .ok (.invokevirtual 186, 3) := by decide +kernel
theorem dX10_readsCommand_95 : decode cX10_readsCommand 95 = .ok (.ifCond .eq 7, 3) := by decide +kernel
theorem dX10_readsCommand_98 : decode cX10_readsCommand 98 = .ok (.iconst 1, 1) := by decide +kernel
theorem dX10_readsCommand_99 : decode cX10_readsCommand 99 = .ok (.goto 4, 3) := by decide +kernel
theorem dX10_readsCommand_102 : decode cX10_readsCommand 102 = .ok (.iconst 0, 1) := by decide +kernel
theorem dX10_readsCommand_103 : decode cX10_readsCommand 103 = .ok (.ireturn, 1) := by decide +kernel
theorem dX10_readsCommand_104 : decode cX10_readsCommand 104 = .ok (.aload_n 0, 1) := by decide +kernel
theorem dX10_readsCommand_105 : decode cX10_readsCommand 105 = .ok (.iconst 0, 1) := by decide +kernel
theorem dX10_readsCommand_106 : decode cX10_readsCommand 106 = .ok (.iconst 1, 1) := by decide +kernel
theorem dX10_readsCommand_107 : decode cX10_readsCommand 107 = .ok (.iconst 1, 1) := by decide +kernel
theorem dX10_readsCommand_108 : decode cX10_readsCommand 108 = .ok (.iconst 1, 1) := by decide +kernel
theorem dX10_readsCommand_109 : decode cX10_readsCommand 109 = .ok (.invokevirtual 186, 3) := by decide +kernel
theorem dX10_readsCommand_112 : decode cX10_readsCommand 112 = .ok (.ifCond .eq 36, 3) := by decide +kernel
theorem dX10_readsCommand_115 : decode cX10_readsCommand 115 = .ok (.aload_n 0, 1) := by decide +kernel
theorem dX10_readsCommand_116 : decode cX10_readsCommand 116 = .ok (.bipush 62, 2) := by decide +kernel
theorem dX10_readsCommand_118 : decode cX10_readsCommand 118 = .ok (.invokevirtual 190, 3) := by decide +kernel
theorem dX10_readsCommand_121 : decode cX10_readsCommand 121 = .ok (.ifCond .eq 27, 3) := by decide +kernel
theorem dX10_readsCommand_124 : decode cX10_readsCommand 124 = .ok (.aload_n 0, 1) := by decide +kernel
theorem dX10_readsCommand_125 : decode cX10_readsCommand 125 = .ok (.iconst 1, 1) := by decide +kernel
theorem dX10_readsCommand_126 : decode cX10_readsCommand 126 = .ok (.iconst 1, 1) := by decide +kernel
theorem dX10_readsCommand_127 : decode cX10_readsCommand 127 = .ok (.iconst 1, 1) := by decide +kernel
theorem dX10_readsCommand_128 : decode cX10_readsCommand 128 = .ok (.iconst 1, 1) := by decide +kernel
theorem dX10_readsCommand_129 : decode cX10_readsCommand 129 = .ok (.invokevirtual 186, 3) := by decide +kernel
theorem dX10_readsCommand_132 : decode cX10_readsCommand 132 = .ok (.ifCond .eq 16, 3) := by decide +kernel
theorem dX10_readsCommand_135 : decode cX10_readsCommand 135 = .ok (.aload_n 0, 1) := by decide +kernel
theorem dX10_readsCommand_136 : decode cX10_readsCommand 136 = .ok (.bipush 58, 2) := by decide +kernel
theorem dX10_readsCommand_138 : decode cX10_readsCommand 138 = .ok (.invokevirtual 190, 3) := by decide +kernel
theorem dX10_readsCommand_141 : decode cX10_readsCommand 141 = .ok (.ifCond .eq 7, 3) := by decide +kernel
theorem dX10_readsCommand_144 : decode cX10_readsCommand 144 = .ok (.iconst 1, 1) := by decide +kernel
theorem dX10_readsCommand_145 : decode cX10_readsCommand 145 = .ok (.goto 4, 3) := by decide +kernel
theorem dX10_readsCommand_148 : decode cX10_readsCommand 148 = .ok (.iconst 0, 1) := by decide +kernel
theorem dX10_readsCommand_149 : decode cX10_readsCommand 149 = .ok (.istore_n 2, 1) := by decide +kernel
theorem dX10_readsCommand_150 : decode cX10_readsCommand 150 = .ok (.iload_n 2, 1) := by decide +kernel
theorem dX10_readsCommand_151 : decode cX10_readsCommand 151 = .ok (.ifCond .eq 59, 3) := by decide +kernel
theorem dX10_readsCommand_154 : decode cX10_readsCommand 154 = .ok (.aload_n 0, 1) := by decide +kernel
theorem dX10_readsCommand_155 : decode cX10_readsCommand 155 = .ok (.iconst 2, 1) := by decide +kernel
theorem dX10_readsCommand_156 : decode cX10_readsCommand 156 = .ok (.iconst 0, 1) := by decide +kernel
theorem dX10_readsCommand_157 : decode cX10_readsCommand 157 = .ok (.bipush 9, 2) := by decide +kernel
theorem dX10_readsCommand_159 : decode cX10_readsCommand 159 = .ok (.iconst 0, 1) := by decide +kernel
theorem dX10_readsCommand_160 : decode cX10_readsCommand 160 = .ok (.invokevirtual 186, 3) := by decide +kernel
theorem dX10_readsCommand_163 : decode cX10_readsCommand 163 = .ok (.ifCond .eq 47, 3) := by decide +kernel
theorem dX10_readsCommand_166 : decode cX10_readsCommand 166 = .ok (.aload_n 0, 1) := by decide +kernel
theorem dX10_readsCommand_167 : decode cX10_readsCommand 167 = .ok (.bipush 64, 2) := by decide +kernel
theorem dX10_readsCommand_169 : decode cX10_readsCommand 169 = .ok (.invokevirtual 190, 3) := by decide +kernel
theorem dX10_readsCommand_172 : decode cX10_readsCommand 172 = .ok (.ifCond .eq 38, 3) := by decide +kernel
theorem dX10_readsCommand_175 : decode cX10_readsCommand 175 = .ok (.aload_n 0, 1) := by decide +kernel
theorem dX10_readsCommand_176 : decode cX10_readsCommand 176 = .ok (.iconst 3, 1) := by decide +kernel
theorem dX10_readsCommand_177 : decode cX10_readsCommand 177 = .ok (.iconst 1, 1) := by decide +kernel
theorem dX10_readsCommand_178 : decode cX10_readsCommand 178 = .ok (.iconst 4, 1) := by decide +kernel
theorem dX10_readsCommand_179 : decode cX10_readsCommand 179 = .ok (.iconst 1, 1) := by decide +kernel
theorem dX10_readsCommand_180 : decode cX10_readsCommand 180 = .ok (.invokevirtual 186, 3) := by decide +kernel
theorem dX10_readsCommand_183 : decode cX10_readsCommand 183 = .ok (.ifCond .eq 27, 3) := by decide +kernel
theorem dX10_readsCommand_186 : decode cX10_readsCommand 186 = .ok (.aload_n 0, 1) := by decide +kernel
theorem dX10_readsCommand_187 : decode cX10_readsCommand 187 = .ok (.bipush 120, 2) := by decide +kernel
theorem dX10_readsCommand_189 : decode cX10_readsCommand 189 = .ok (.invokevirtual 190, 3) := by decide +kernel
theorem dX10_readsCommand_192 : decode cX10_readsCommand 192 = .ok (.ifCond .eq 18, 3) := by decide +kernel
theorem dX10_readsCommand_195 : decode cX10_readsCommand 195 = .ok (.aload_n 0, 1) := by decide +kernel
theorem dX10_readsCommand_196 : decode cX10_readsCommand 196 = .ok (.iconst 4, 1) := by decide +kernel
theorem dX10_readsCommand_197 : decode cX10_readsCommand 197 = .ok (.iconst 1, 1) := by decide +kernel
theorem dX10_readsCommand_198 : decode cX10_readsCommand 198 = .ok (.iconst 4, 1) := by decide +kernel
theorem dX10_readsCommand_199 : decode cX10_readsCommand 199 = .ok (.iconst 1, 1) := by decide +kernel
theorem dX10_readsCommand_200 : decode cX10_readsCommand 200 = .ok (.invokevirtual 186, 3) := by decide +kernel
theorem dX10_readsCommand_203 : decode cX10_readsCommand 203 = .ok (.ifCond .eq 7, 3) := by decide +kernel
theorem dX10_readsCommand_206 : decode cX10_readsCommand 206 = .ok (.iconst 1, 1) := by decide +kernel
theorem dX10_readsCommand_207 : decode cX10_readsCommand 207 = .ok (.goto 4, 3) := by decide +kernel
theorem dX10_readsCommand_210 : decode cX10_readsCommand 210 = .ok (.iconst 0, 1) := by decide +kernel
theorem dX10_readsCommand_211 : decode cX10_readsCommand 211 = .ok (.ireturn, 1) := by decide +kernel
theorem dX10_readsText_0 : decode cX10_readsText 0 = .ok (.aload_n 0, 1) := by decide +kernel
theorem dX10_readsText_1 : decode cX10_readsText 1 = .ok (.iconst 0, 1) := by decide +kernel
theorem dX10_readsText_2 : decode cX10_readsText 2 = .ok (.putfield 177, 3) := by decide +kernel
theorem dX10_readsText_5 : decode cX10_readsText 5 = .ok (.aload_n 0, 1) := by decide +kernel
theorem dX10_readsText_6 : decode cX10_readsText 6 = .ok (.iconst 0, 1) := by decide +kernel
theorem dX10_readsText_7 : decode cX10_readsText 7 = .ok (.putfield 183, 3) := by decide +kernel
theorem dX10_readsText_10 : decode cX10_readsText 10 = .ok (.iconst 1, 1) := by decide +kernel
theorem dX10_readsText_11 : decode cX10_readsText 11 = .ok (.istore_n 1, 1) := by decide +kernel
theorem dX10_readsText_12 : decode cX10_readsText 12 = .ok (.iload_n 1, 1) := by decide +kernel
theorem dX10_readsText_13 : decode cX10_readsText 13 = .ok (.ifCond .eq 32, 3) := by decide +kernel
theorem dX10_readsText_16 : decode cX10_readsText 16 = .ok (.aload_n 0, 1) := by decide +kernel
theorem dX10_readsText_17 : decode cX10_readsText 17 = .ok (.invokevirtual 193, 3) := by decide +kernel
theorem dX10_readsText_20 : decode cX10_readsText 20 = .ok (.ifCond .ne 5, 3) := by decide +kernel
theorem dX10_readsText_23 : decode cX10_readsText 23 = .ok (.iconst 0, 1) := by decide +kernel
theorem dX10_readsText_24 : decode cX10_readsText 24 = .ok (.ireturn, 1) := by decide +kernel
theorem dX10_readsText_25 : decode cX10_readsText 25 = .ok (.aload_n 0, 1) := by decide +kernel
theorem dX10_readsText_26 : decode cX10_readsText 26 = .ok (.dup, 1) := by decide +kernel
theorem dX10_readsText_27 : decode cX10_readsText 27 = .ok (.getfield 183, 3) := by decide +kernel
theorem dX10_readsText_30 : decode cX10_readsText 30 = .ok (.iconst 1, 1) := by decide +kernel
theorem dX10_readsText_31 : decode cX10_readsText 31 = .ok (.iadd, 1) := by decide +kernel
theorem dX10_readsText_32 : decode cX10_readsText 32 = .ok (.putfield 183, 3) := by decide +kernel
theorem dX10_readsText_35 : decode cX10_readsText 35 = .ok (.aload_n 0, 1) := by decide +kernel
theorem dX10_readsText_36 : decode cX10_readsText 36 = .ok (.bipush 59, 2) := by decide +kernel
theorem dX10_readsText_38 : decode cX10_readsText 38 = .ok (.invokevirtual 190, 3) := by decide +kernel
theorem dX10_readsText_41 : decode cX10_readsText 41 = .ok (.istore_n 1, 1) := by decide +kernel
theorem dX10_readsText_42 : decode cX10_readsText 42 = .ok (.goto (-30), 3) := by decide +kernel
theorem dX10_readsText_45 : decode cX10_readsText 45 = .ok (.aload_n 0, 1) := by decide +kernel
theorem dX10_readsText_46 : decode cX10_readsText 46 = .ok (.getfield 177, 3) := by decide +kernel
theorem dX10_readsText_49 : decode cX10_readsText 49 = .ok (.aload_n 0, 1) := by decide +kernel
theorem dX10_readsText_50 : decode cX10_readsText 50 = .ok (.getfield 174, 3) := by decide +kernel
theorem dX10_readsText_53 : decode cX10_readsText 53 = .ok (.if_icmp .ne 7, 3) := by decide +kernel
theorem dX10_readsText_56 : decode cX10_readsText 56 = .ok (.iconst 1, 1) := by decide +kernel
theorem dX10_readsText_57 : decode cX10_readsText 57 = .ok (.goto 4, 3) := by decide +kernel
theorem dX10_readsText_60 : decode cX10_readsText 60 = .ok (.iconst 0, 1) := by decide +kernel
theorem dX10_readsText_61 : decode cX10_readsText 61 = .ok (.ireturn, 1) := by decide +kernel
theorem dX10_num_0 : decode cX10_num 0 = .ok (.aload_n 0, 1) := by decide +kernel
theorem dX10_num_1 : decode cX10_num 1 = .ok (.getfield 55, 3) := by decide +kernel
theorem dX10_num_4 : decode cX10_num 4 = .ok (.iconst 5, 1) := by decide +kernel
theorem dX10_num_5 : decode cX10_num 5 = .ok (.iload_n 1, 1) := by decide +kernel
theorem dX10_num_6 : decode cX10_num 6 = .ok (.imul, 1) := by decide +kernel
theorem dX10_num_7 : decode cX10_num 7 = .ok (.iload_n 2, 1) := by decide +kernel
theorem dX10_num_8 : decode cX10_num 8 = .ok (.iadd, 1) := by decide +kernel
theorem dX10_num_9 : decode cX10_num 9 = .ok (.iaload, 1) := by decide +kernel
theorem dX10_num_10 : decode cX10_num 10 = .ok (.ireturn, 1) := by decide +kernel
theorem dX10_does_0 : decode cX10_does 0 = .ok (.aload_n 0, 1) := by decide +kernel
theorem dX10_does_1 : decode cX10_does 1 = .ok (.iload_n 1, 1) := by decide +kernel
theorem dX10_does_2 : decode cX10_does 2 = .ok (.iconst 0, 1) := by decide +kernel
theorem dX10_does_3 : decode cX10_does 3 = .ok (.invokevirtual 197, 3) := by decide +kernel
theorem dX10_does_6 : decode cX10_does 6 = .ok (.istore_n 2, 1) := by decide +kernel
theorem dX10_does_7 : decode cX10_does 7 = .ok (.aload_n 0, 1) := by decide +kernel
theorem dX10_does_8 : decode cX10_does 8 = .ok (.iload_n 1, 1) := by decide +kernel
theorem dX10_does_9 : decode cX10_does 9 = .ok (.iconst 1, 1) := by decide +kernel
theorem dX10_does_10 : decode cX10_does 10 = .ok (.invokevirtual 197, 3) := by decide +kernel
theorem dX10_does_13 : decode cX10_does 13 = .ok (.istore_n 3, 1) := by decide +kernel
theorem dX10_does_14 : decode cX10_does 14 = .ok (.aload_n 0, 1) := by decide +kernel
theorem dX10_does_15 : decode cX10_does 15 = .ok (.getfield 52, 3) := by decide +kernel
theorem dX10_does_18 : decode cX10_does 18 = .ok (.iload_n 1, 1) := by decide +kernel
theorem dX10_does_19 : decode cX10_does 19 = .ok (.iaload, 1) := by decide +kernel
theorem dX10_does_20 : decode cX10_does 20 = .ok (.bipush 108, 2) := by decide +kernel
theorem dX10_does_22 : decode cX10_does 22 = .ok (.if_icmp .ne 46, 3) := by decide +kernel
theorem dX10_does_25 : decode cX10_does 25 = .ok (.aload_n 0, 1) := by decide +kernel
theorem dX10_does_26 : decode cX10_does 26 = .ok (.iload_n 2, 1) := by decide +kernel
theorem dX10_does_27 : decode cX10_does 27 = .ok (.invokevirtual 79, 3) := by decide +kernel
theorem dX10_does_30 : decode cX10_does 30 = .ok (.istore 4, 2) := by decide +kernel
theorem dX10_does_32 : decode cX10_does 32 = .ok (.aload_n 0, 1) := by decide +kernel
theorem dX10_does_33 : decode cX10_does 33 = .ok (.getfield 7, 3) := by decide +kernel
theorem dX10_does_36 : decode cX10_does 36 = .ok (.bipush 10, 2) := by decide +kernel
theorem dX10_does_38 : decode cX10_does 38 = .ok (.iload_n 2, 1) := by decide +kernel
theorem dX10_does_39 : decode cX10_does 39 = .ok (.bipush 8, 2) := by decide +kernel
theorem dX10_does_41 : decode cX10_does 41 = .ok (.irem, 1) := by decide +kernel
theorem dX10_does_42 : decode cX10_does 42 = .ok (.iadd, 1) := by decide +kernel
theorem dX10_does_43 : decode cX10_does 43 = .ok (.iload 4, 2) := by decide +kernel
theorem dX10_does_45 : decode cX10_does 45 = .ok (.ifCond .eq 7, 3) := by decide +kernel
theorem dX10_does_48 : decode cX10_does 48 = .ok (.iconst 1, 1) := by decide +kernel
theorem dX10_does_49 : decode cX10_does 49 = .ok (.goto 15, 3) := by decide +kernel
theorem dX10_does_52 : decode cX10_does 52 = .ok (.aload_n 0, 1) := by decide +kernel
theorem dX10_does_53 : decode cX10_does 53 = .ok (.getfield 7, 3) := by decide +kernel
theorem dX10_does_56 : decode cX10_does 56 = .ok (.bipush 10, 2) := by decide +kernel
theorem dX10_does_58 : decode cX10_does 58 = .ok (.iload_n 2, 1) := by decide +kernel
theorem dX10_does_59 : decode cX10_does 59 = .ok (.bipush 8, 2) := by decide +kernel
theorem dX10_does_61 : decode cX10_does 61 = .ok (.irem, 1) := by decide +kernel
theorem dX10_does_62 : decode cX10_does 62 = .ok (.iadd, 1) := by decide +kernel
theorem dX10_does_63 : decode cX10_does 63 = .ok (.iaload, 1) := by decide +kernel
theorem dX10_does_64 : decode cX10_does 64 = .ok (.iastore, 1) := by decide +kernel
theorem dX10_does_65 : decode cX10_does 65 = .ok (.iload 4, 2) := by decide +kernel
theorem dX10_does_67 : decode cX10_does 67 = .ok (.ireturn, 1) := by decide +kernel
theorem dX10_does_68 : decode cX10_does 68 = .ok (.aload_n 0, 1) := by decide +kernel
theorem dX10_does_69 : decode cX10_does 69 = .ok (.getfield 52, 3) := by decide +kernel
theorem dX10_does_72 : decode cX10_does 72 = .ok (.iload_n 1, 1) := by decide +kernel
theorem dX10_does_73 : decode cX10_does 73 = .ok (.iaload, 1) := by decide +kernel
theorem dX10_does_74 : decode cX10_does 74 = .ok (.bipush 112, 2) := by decide +kernel
theorem dX10_does_76 : decode cX10_does 76 = .ok (.if_icmp .ne 58, 3) := by decide +kernel
theorem dX10_does_79 : decode cX10_does 79 = .ok (.aload_n 0, 1) := by decide +kernel
theorem dX10_does_80 : decode cX10_does 80 = .ok (.iload_n 3, 1) := by decide +kernel
theorem dX10_does_81 : decode cX10_does 81 = .ok (.invokevirtual 79, 3) := by decide +kernel
theorem dX10_does_84 : decode cX10_does 84 = .ok (.ifCond .eq 26, 3) := by decide +kernel
theorem dX10_does_87 : decode cX10_does 87 = .ok (.aload_n 0, 1) := by decide +kernel
theorem dX10_does_88 : decode cX10_does 88 = .ok (.getfield 7, 3) := by decide +kernel
theorem dX10_does_91 : decode cX10_does 91 = .ok (.iconst 2, 1) := by decide +kernel
theorem dX10_does_92 : decode cX10_does 92 = .ok (.iaload, 1) := by decide +kernel
theorem dX10_does_93 : decode cX10_does 93 = .ok (.bipush 30, 2) := by decide +kernel
theorem dX10_does_95 : decode cX10_does 95 = .ok (.if_icmp .lt 11, 3) := by decide +kernel
theorem dX10_does_98 : decode cX10_does 98 = .ok (.aload_n 0, 1) := by decide +kernel
theorem dX10_does_99 : decode cX10_does 99 = .ok (.iload_n 2, 1) := by decide +kernel
theorem dX10_does_100 : decode cX10_does 100 = .ok (.invokevirtual 93, 3) := by decide +kernel
theorem dX10_does_103 : decode cX10_does 103 = .ok (.ifCond .lt 7, 3) := by decide +kernel
theorem dX10_does_106 : decode cX10_does 106 = .ok (.iconst 1, 1) := by decide +kernel
theorem dX10_does_107 : decode cX10_does 107 = .ok (.goto 4, 3) := by decide +kernel
theorem dX10_does_110 : decode cX10_does 110 = .ok (.iconst 0, 1) := by decide +kernel
theorem dX10_does_111 : decode cX10_does 111 = .ok (.istore 4, 2) := by decide +kernel
theorem dX10_does_113 : decode cX10_does 113 = .ok (.iload 4, 2) := by decide +kernel
theorem dX10_does_115 : decode cX10_does 115 = .ok (.ifCond .eq 12, 3) := by decide +kernel
theorem dX10_does_118 : decode cX10_does 118 = .ok (.aload_n 0, 1) := by decide +kernel
theorem dX10_does_119 : decode cX10_does 119 = .ok (.iload_n 2, 1) := by decide +kernel
theorem dX10_does_120 : decode cX10_does 120 = .ok (.iload_n 3, 1) := by decide +kernel
theorem dX10_does_121 : decode cX10_does 121 = .ok (.invokevirtual 100, 3) := by decide +kernel
theorem dX10_does_124 : decode cX10_does 124 = .ok (.goto 5, 3) := by decide +kernel
theorem dX10_does_127 : decode cX10_does 127 = .ok (.bipush (-9), 2) := by decide +kernel
theorem dX10_does_129 : decode cX10_does 129 = .ok (.istore 5, 2) := by decide +kernel
theorem dX10_does_131 : decode cX10_does 131 = .ok (.iload 4, 2) := by decide +kernel
theorem dX10_does_133 : decode cX10_does 133 = .ok (.ireturn, 1) := by decide +kernel
theorem dX10_does_134 : decode cX10_does 134 = .ok (.aload_n 0, 1) := by decide +kernel
theorem dX10_does_135 : decode cX10_does 135 = .ok (.iload_n 2, 1) := by decide +kernel
theorem dX10_does_136 : decode cX10_does 136 = .ok (.aload_n 0, 1) := by decide +kernel
theorem dX10_does_137 : decode cX10_does 137 = .ok (.iload_n 1, 1) := by decide +kernel
theorem dX10_does_138 : decode cX10_does 138 = .ok (.iconst 2, 1) := by decide +kernel
theorem dX10_does_139 : decode cX10_does 139 = .ok (.invokevirtual 197, 3) := by decide +kernel
theorem dX10_does_142 : decode cX10_does 142 = .ok (.iload_n 3, 1) := by decide +kernel
theorem dX10_does_143 : decode cX10_does 143 = .ok (.aload_n 0, 1) := by decide +kernel
theorem dX10_does_144 : decode cX10_does 144 = .ok (.iload_n 1, 1) := by decide +kernel
theorem dX10_does_145 : decode cX10_does 145 = .ok (.iconst 3, 1) := by decide +kernel
theorem dX10_does_146 : decode cX10_does 146 = .ok (.invokevirtual 197, 3) := by decide +kernel
theorem dX10_does_149 : decode cX10_does 149 = .ok (.aload_n 0, 1) := by decide +kernel
theorem dX10_does_150 : decode cX10_does 150 = .ok (.iload_n 1, 1) := by decide +kernel
theorem dX10_does_151 : decode cX10_does 151 = .ok (.iconst 4, 1) := by decide +kernel
theorem dX10_does_152 : decode cX10_does 152 = .ok (.invokevirtual 197, 3) := by decide +kernel
theorem dX10_does_155 : decode cX10_does 155 = .ok (.invokevirtual 85, 3) := by decide +kernel
theorem dX10_does_158 : decode cX10_does 158 = .ok (.ifCond .eq 18, 3) := by decide +kernel
theorem dX10_does_161 : decode cX10_does 161 = .ok (.aload_n 0, 1) := by decide +kernel
theorem dX10_does_162 : decode cX10_does 162 = .ok (.getfield 7, 3) := by decide +kernel
theorem dX10_does_165 : decode cX10_does 165 = .ok (.iconst 1, 1) := by decide +kernel
theorem dX10_does_166 : decode cX10_does 166 = .ok (.iaload, 1) := by decide +kernel
theorem dX10_does_167 : decode cX10_does 167 = .ok (.bipush 40, 2) := by decide +kernel
theorem dX10_does_169 : decode cX10_does 169 = .ok (.if_icmp .ge 7, 3) := by decide +kernel
theorem dX10_does_172 : decode cX10_does 172 = .ok (.iconst 1, 1) := by decide +kernel
theorem dX10_does_173 : decode cX10_does 173 = .ok (.goto 4, 3) := by decide +kernel
theorem dX10_does_176 : decode cX10_does 176 = .ok (.iconst 0, 1) := by decide +kernel
theorem dX10_does_177 : decode cX10_does 177 = .ok (.istore 4, 2) := by decide +kernel
theorem dX10_does_179 : decode cX10_does 179 = .ok (.iload 4, 2) := by decide +kernel
theorem dX10_does_181 : decode cX10_does 181 = .ok (.ifCond .eq 27, 3) := by decide +kernel
theorem dX10_does_184 : decode cX10_does 184 = .ok (.aload_n 0, 1) := by decide +kernel
theorem dX10_does_185 : decode cX10_does 185 = .ok (.iload_n 2, 1) := by decide +kernel
theorem dX10_does_186 : decode cX10_does 186 = .ok (.aload_n 0, 1) := by decide +kernel
theorem dX10_does_187 : decode cX10_does 187 = .ok (.iload_n 1, 1) := by decide +kernel
theorem dX10_does_188 : decode cX10_does 188 = .ok (.iconst 2, 1) := by decide +kernel
theorem dX10_does_189 : decode cX10_does 189 = .ok (.invokevirtual 197, 3) := by decide +kernel
theorem dX10_does_192 : decode cX10_does 192 = .ok (.iload_n 3, 1) := by decide +kernel
theorem dX10_does_193 : decode cX10_does 193 = .ok (.aload_n 0, 1) := by decide +kernel
theorem dX10_does_194 : decode cX10_does 194 = .ok (.iload_n 1, 1) := by decide +kernel
theorem dX10_does_195 : decode cX10_does 195 = .ok (.iconst 3, 1) := by decide +kernel
theorem dX10_does_196 : decode cX10_does 196 = .ok (.invokevirtual 197, 3) := by decide +kernel
theorem dX10_does_199 : decode cX10_does 199 = .ok (.aload_n 0, 1) := by decide +kernel
theorem dX10_does_200 : decode cX10_does 200 = .ok (.iload_n 1, 1) := by decide +kernel
theorem dX10_does_201 : decode cX10_does 201 = .ok (.iconst 4, 1) := by decide +kernel
theorem dX10_does_202 : decode cX10_does 202 = .ok (.invokevirtual 197, 3) := by decide +kernel
theorem dX10_does_205 : decode cX10_does 205 = .ok (.invokevirtual 89, 3) := by decide +kernel
theorem dX10_does_208 : decode cX10_does 208 = .ok (.iload 4, 2) := by decide +kernel
theorem dX10_does_210 : decode cX10_does 210 = .ok (.ireturn, 1) := by decide +kernel
theorem dX10_run_0 : decode cX10_run 0 = .ok (.aload_n 0, 1) := by decide +kernel
theorem dX10_run_1 : decode cX10_run 1 = .ok (.invokevirtual 200, 3) := by decide +kernel
theorem dX10_run_4 : decode cX10_run 4 = .ok (.ifCond .ne 11, 3) := by decide +kernel
theorem dX10_run_7 : decode cX10_run 7 = .ok (.bipush (-100), 2) := by decide +kernel
theorem dX10_run_9 : decode cX10_run 9 = .ok (.aload_n 0, 1) := by decide +kernel
theorem dX10_run_10 : decode cX10_run 10 = .ok (.getfield 177, 3) := by decide +kernel
theorem dX10_run_13 : decode cX10_run 13 = .ok (.isub, 1) := by decide +kernel
theorem dX10_run_14 : decode cX10_run 14 = .ok (.ireturn, 1) := by decide +kernel
theorem dX10_run_15 : decode cX10_run 15 = .ok (.aload_n 0, 1) := by decide +kernel
theorem dX10_run_16 : decode cX10_run 16 = .ok (.getfield 7, 3) := by decide +kernel
theorem dX10_run_19 : decode cX10_run 19 = .ok (.aload_n 0, 1) := by decide +kernel
theorem dX10_run_20 : decode cX10_run 20 = .ok (.getfield 13, 3) := by decide +kernel
theorem dX10_run_23 : decode cX10_run 23 = .ok (.invokestatic 157, 3) := by decide +kernel
theorem dX10_run_26 : decode cX10_run 26 = .ok (.iconst 0, 1) := by decide +kernel
theorem dX10_run_27 : decode cX10_run 27 = .ok (.istore_n 1, 1) := by decide +kernel
theorem dX10_run_28 : decode cX10_run 28 = .ok (.iload_n 1, 1) := by decide +kernel
theorem dX10_run_29 : decode cX10_run 29 = .ok (.aload_n 0, 1) := by decide +kernel
theorem dX10_run_30 : decode cX10_run 30 = .ok (.getfield 183, 3) := by decide +kernel
theorem dX10_run_33 : decode cX10_run 33 = .ok (.if_icmp .ge 34, 3) := by decide +kernel
theorem dX10_run_36 : decode cX10_run 36 = .ok (.aload_n 0, 1) := by decide +kernel
theorem dX10_run_37 : decode cX10_run 37 = .ok (.iload_n 1, 1) := by decide +kernel
theorem dX10_run_38 : decode cX10_run 38 = .ok (.invokevirtual 203, 3) := by decide +kernel
theorem dX10_run_41 : decode cX10_run 41 = .ok (.ifCond .ne 20, 3) := by decide +kernel
theorem dX10_run_44 : decode cX10_run 44 = .ok (.aload_n 0, 1) := by decide +kernel
theorem dX10_run_45 : decode cX10_run 45 = .ok (.getfield 13, 3) := by decide +kernel
theorem dX10_run_48 : decode cX10_run 48 = .ok (.aload_n 0, 1) := by decide +kernel
theorem dX10_run_49 : decode cX10_run 49 = .ok (.getfield 7, 3) := by decide +kernel
theorem dX10_run_52 : decode cX10_run 52 = .ok (.invokestatic 157, 3) := by decide +kernel
theorem dX10_run_55 : decode cX10_run 55 = .ok (.sipush (-1000), 3) := by decide +kernel
theorem dX10_run_58 : decode cX10_run 58 = .ok (.iload_n 1, 1) := by decide +kernel
theorem dX10_run_59 : decode cX10_run 59 = .ok (.isub, 1) := by decide +kernel
theorem dX10_run_60 : decode cX10_run 60 = .ok (.ireturn, 1) := by decide +kernel
theorem dX10_run_61 : decode cX10_run 61 = .ok (.iinc 1 1, 3) := by decide +kernel
theorem dX10_run_64 : decode cX10_run 64 = .ok (.goto (-36), 3) := by decide +kernel
theorem dX10_run_67 : decode cX10_run 67 = .ok (.aload_n 0, 1) := by decide +kernel
theorem dX10_run_68 : decode cX10_run 68 = .ok (.aload_n 0, 1) := by decide +kernel
theorem dX10_run_69 : decode cX10_run 69 = .ok (.getfield 13, 3) := by decide +kernel
theorem dX10_run_72 : decode cX10_run 72 = .ok (.invokevirtual 62, 3) := by decide +kernel
theorem dX10_run_75 : decode cX10_run 75 = .ok (.aload_n 0, 1) := by decide +kernel
theorem dX10_run_76 : decode cX10_run 76 = .ok (.iconst 0, 1) := by decide +kernel
theorem dX10_run_77 : decode cX10_run 77 = .ok (.putfield 174, 3) := by decide +kernel
theorem dX10_run_80 : decode cX10_run 80 = .ok (.aload_n 0, 1) := by decide +kernel
theorem dX10_run_81 : decode cX10_run 81 = .ok (.getfield 183, 3) := by decide +kernel
theorem dX10_run_84 : decode cX10_run 84 = .ok (.ireturn, 1) := by decide +kernel
theorem dX10_undo_0 : decode cX10_undo 0 = .ok (.aload_n 0, 1) := by decide +kernel
theorem dX10_undo_1 : decode cX10_undo 1 = .ok (.getfield 58, 3) := by decide +kernel
theorem dX10_undo_4 : decode cX10_undo 4 = .ok (.ifCond .ne 6, 3) := by decide +kernel
theorem dX10_undo_7 : decode cX10_undo 7 = .ok (.bipush (-9), 2) := by decide +kernel
theorem dX10_undo_9 : decode cX10_undo 9 = .ok (.ireturn, 1) := by decide +kernel
theorem dX10_undo_10 : decode cX10_undo 10 = .ok (.aload_n 0, 1) := by decide +kernel
theorem dX10_undo_11 : decode cX10_undo 11 = .ok (.dup, 1) := by decide +kernel
theorem dX10_undo_12 : decode cX10_undo 12 = .ok (.getfield 58, 3) := by decide +kernel
theorem dX10_undo_15 : decode cX10_undo 15 = .ok (.iconst 1, 1) := by decide +kernel
theorem dX10_undo_16 : decode cX10_undo 16 = .ok (.isub, 1) := by decide +kernel
theorem dX10_undo_17 : decode cX10_undo 17 = .ok (.putfield 58, 3) := by decide +kernel
theorem dX10_undo_20 : decode cX10_undo 20 = .ok (.iconst 0, 1) := by decide +kernel
theorem dX10_undo_21 : decode cX10_undo 21 = .ok (.istore_n 1, 1) := by decide +kernel
theorem dX10_undo_22 : decode cX10_undo 22 = .ok (.iload_n 1, 1) := by decide +kernel
theorem dX10_undo_23 : decode cX10_undo 23 = .ok (.sipush 640, 3) := by decide +kernel
theorem dX10_undo_26 : decode cX10_undo 26 = .ok (.if_icmp .ge 30, 3) := by decide +kernel
theorem dX10_undo_29 : decode cX10_undo 29 = .ok (.aload_n 0, 1) := by decide +kernel
theorem dX10_undo_30 : decode cX10_undo 30 = .ok (.getfield 7, 3) := by decide +kernel
theorem dX10_undo_33 : decode cX10_undo 33 = .ok (.iload_n 1, 1) := by decide +kernel
theorem dX10_undo_34 : decode cX10_undo 34 = .ok (.aload_n 0, 1) := by decide +kernel
theorem dX10_undo_35 : decode cX10_undo 35 = .ok (.getfield 16, 3) := by decide +kernel
theorem dX10_undo_38 : decode cX10_undo 38 = .ok (.sipush 640, 3) := by decide +kernel
theorem dX10_undo_41 : decode cX10_undo 41 = .ok (.aload_n 0, 1) := by decide +kernel
theorem dX10_undo_42 : decode cX10_undo 42 = .ok (.getfield 58, 3) := by decide +kernel
theorem dX10_undo_45 : decode cX10_undo 45 = .ok (.imul, 1) := by decide +kernel
theorem dX10_undo_46 : decode cX10_undo 46 = .ok (.iload_n 1, 1) := by decide +kernel
theorem dX10_undo_47 : decode cX10_undo 47 = .ok (.iadd, 1) := by decide +kernel
theorem dX10_undo_48 : decode cX10_undo 48 = .ok (.iaload, 1) := by decide +kernel
theorem dX10_undo_49 : decode cX10_undo 49 = .ok (.iastore, 1) := by decide +kernel
theorem dX10_undo_50 : decode cX10_undo 50 = .ok (.iinc 1 1, 3) := by decide +kernel
theorem dX10_undo_53 : decode cX10_undo 53 = .ok (.goto (-31), 3) := by decide +kernel
theorem dX10_undo_56 : decode cX10_undo 56 = .ok (.aload_n 0, 1) := by decide +kernel
theorem dX10_undo_57 : decode cX10_undo 57 = .ok (.getfield 58, 3) := by decide +kernel
theorem dX10_undo_60 : decode cX10_undo 60 = .ok (.ireturn, 1) := by decide +kernel
theorem dX10_fingerprint_0 : decode cX10_fingerprint 0 = .ok (.ldc2_w 206, 3) := by decide +kernel
theorem dX10_fingerprint_3 : decode cX10_fingerprint 3 = .ok (.ldc2_w 208, 3) := by decide +kernel
theorem dX10_fingerprint_6 : decode cX10_fingerprint 6 = .ok (.aload_n 0, 1) := by decide +kernel
theorem dX10_fingerprint_7 : decode cX10_fingerprint 7 = .ok (.getfield 7, 3) := by decide +kernel
theorem dX10_fingerprint_10 : decode cX10_fingerprint 10 = .ok (.iconst 0, 1) := by decide +kernel
theorem dX10_fingerprint_11 : decode cX10_fingerprint 11 = .ok (.iaload, 1) := by decide +kernel
theorem dX10_fingerprint_12 : decode cX10_fingerprint 12 = .ok (.i2l, 1) := by decide +kernel
theorem dX10_fingerprint_13 : decode cX10_fingerprint 13 = .ok (.ladd, 1) := by decide +kernel
theorem dX10_fingerprint_14 : decode cX10_fingerprint 14 = .ok (.lmul, 1) := by decide +kernel
theorem dX10_fingerprint_15 : decode cX10_fingerprint 15 = .ok (.aload_n 0, 1) := by decide +kernel
theorem dX10_fingerprint_16 : decode cX10_fingerprint 16 = .ok (.getfield 7, 3) := by decide +kernel
theorem dX10_fingerprint_19 : decode cX10_fingerprint 19 = .ok (.iconst 1, 1) := by decide +kernel
theorem dX10_fingerprint_20 : decode cX10_fingerprint 20 = .ok (.iaload, 1) := by decide +kernel
theorem dX10_fingerprint_21 : decode cX10_fingerprint 21 = .ok (.i2l, 1) := by decide +kernel
theorem dX10_fingerprint_22 : decode cX10_fingerprint 22 = .ok (.ladd, 1) := by decide +kernel
theorem dX10_fingerprint_23 : decode cX10_fingerprint 23 = .ok (.lstore_n 1, 1) := by decide +kernel
theorem dX10_fingerprint_24 : decode cX10_fingerprint 24 = .ok (.iconst 0, 1) := by decide +kernel
theorem dX10_fingerprint_25 : decode cX10_fingerprint 25 = .ok (.istore_n 3, 1) := by decide +kernel
theorem dX10_fingerprint_26 : decode cX10_fingerprint 26 = .ok (.iload_n 3, 1) := by decide +kernel
theorem dX10_fingerprint_27 : decode cX10_fingerprint 27 = .ok (.aload_n 0, 1) := by decide +kernel
theorem dX10_fingerprint_28 : decode cX10_fingerprint 28 = .ok (.getfield 7, 3) := by decide +kernel
theorem dX10_fingerprint_31 : decode cX10_fingerprint 31 = .ok (.iconst 1, 1) := by decide +kernel
theorem dX10_fingerprint_32 : decode cX10_fingerprint 32 = .ok (.iaload, 1) := by decide +kernel
theorem dX10_fingerprint_33 : decode cX10_fingerprint 33 = .ok (.if_icmp .ge 40, 3) := by decide +kernel
theorem dX10_fingerprint_36 : decode cX10_fingerprint 36 = .ok (.iconst 0, 1) := by decide +kernel
theorem dX10_fingerprint_37 : decode cX10_fingerprint 37 = .ok (.istore 4, 2) := by decide +kernel
theorem dX10_fingerprint_39 : decode cX10_fingerprint 39 = .ok (.iload 4, 2) := by decide +kernel
theorem dX10_fingerprint_41 : decode cX10_fingerprint 41 = .ok (.bipush 8, 2) := by decide +kernel
theorem dX10_fingerprint_43 : decode cX10_fingerprint 43 = .ok (.if_icmp .ge 24, 3) := by decide +kernel
theorem dX10_fingerprint_46 : decode cX10_fingerprint 46 = .ok (.ldc2_w 206, 3) := by decide +kernel
theorem dX10_fingerprint_49 : decode cX10_fingerprint 49 = .ok (.lload_n 1, 1) := by decide +kernel
theorem dX10_fingerprint_50 : decode cX10_fingerprint 50 = .ok (.lmul, 1) := by decide +kernel
theorem dX10_fingerprint_51 : decode cX10_fingerprint 51 = .ok (.aload_n 0, 1) := by decide +kernel
theorem dX10_fingerprint_52 : decode cX10_fingerprint 52 = .ok (.iload_n 3, 1) := by decide +kernel
theorem dX10_fingerprint_53 : decode cX10_fingerprint 53 = .ok (.iload 4, 2) := by decide +kernel
theorem dX10_fingerprint_55 : decode cX10_fingerprint 55 = .ok (.invokevirtual 71, 3) := by decide +kernel
theorem dX10_fingerprint_58 : decode cX10_fingerprint 58 = .ok (.i2l, 1) := by decide +kernel
theorem dX10_fingerprint_59 : decode cX10_fingerprint 59 = .ok (.ladd, 1) := by decide +kernel
theorem dX10_fingerprint_60 : decode cX10_fingerprint 60 = .ok (.lstore_n 1, 1) := by decide +kernel
theorem dX10_fingerprint_61 : decode cX10_fingerprint 61 = .ok (.iinc 4 1, 3) := by decide +kernel
theorem dX10_fingerprint_64 : decode cX10_fingerprint 64 = .ok (.goto (-25), 3) := by decide +kernel
theorem dX10_fingerprint_67 : decode cX10_fingerprint 67 = .ok (.iinc 3 1, 3) := by decide +kernel
theorem dX10_fingerprint_70 : decode cX10_fingerprint 70 = .ok (.goto (-44), 3) := by decide +kernel
theorem dX10_fingerprint_73 : decode cX10_fingerprint 73 = .ok (.ldc2_w 206, 3) := by decide +kernel
theorem dX10_fingerprint_76 : decode cX10_fingerprint 76 = .ok (.ldc2_w 206, 3) := by decide +kernel
theorem dX10_fingerprint_79 : decode cX10_fingerprint 79 = .ok (.ldc2_w 206, 3) := by decide +kernel
theorem dX10_fingerprint_82 : decode cX10_fingerprint 82 = .ok (.ldc2_w 206, 3) := by decide +kernel
theorem dX10_fingerprint_85 : decode cX10_fingerprint 85 = .ok (.lload_n 1, 1) := by decide +kernel
theorem dX10_fingerprint_86 : decode cX10_fingerprint 86 = .ok (.lmul, 1) := by decide +kernel
theorem dX10_fingerprint_87 : decode cX10_fingerprint 87 = .ok (.aload_n 0, 1) := by decide +kernel
theorem dX10_fingerprint_88 : decode cX10_fingerprint 88 = .ok (.getfield 7, 3) := by decide +kernel
theorem dX10_fingerprint_91 : decode cX10_fingerprint 91 = .ok (.iconst 2, 1) := by decide +kernel
theorem dX10_fingerprint_92 : decode cX10_fingerprint 92 = .ok (.iaload, 1) := by decide +kernel
theorem dX10_fingerprint_93 : decode cX10_fingerprint 93 = .ok (.i2l, 1) := by decide +kernel
theorem dX10_fingerprint_94 : decode cX10_fingerprint 94 = .ok (.ladd, 1) := by decide +kernel
theorem dX10_fingerprint_95 : decode cX10_fingerprint 95 = .ok (.lmul, 1) := by decide +kernel
theorem dX10_fingerprint_96 : decode cX10_fingerprint 96 = .ok (.aload_n 0, 1) := by decide +kernel
theorem dX10_fingerprint_97 : decode cX10_fingerprint 97 = .ok (.getfield 7, 3) := by decide +kernel
theorem dX10_fingerprint_100 : decode cX10_fingerprint 100 = .ok (.iconst 3, 1) := by decide +kernel
theorem dX10_fingerprint_101 : decode cX10_fingerprint 101 = .ok (.iaload, 1) := by decide +kernel
theorem dX10_fingerprint_102 : decode cX10_fingerprint 102 = .ok (.i2l, 1) := by decide +kernel
theorem dX10_fingerprint_103 : decode cX10_fingerprint 103 = .ok (.ladd, 1) := by decide +kernel
theorem dX10_fingerprint_104 : decode cX10_fingerprint 104 = .ok (.lmul, 1) := by decide +kernel
theorem dX10_fingerprint_105 : decode cX10_fingerprint 105 = .ok (.aload_n 0, 1) := by decide +kernel
theorem dX10_fingerprint_106 : decode cX10_fingerprint 106 = .ok (.getfield 7, 3) := by decide +kernel
theorem dX10_fingerprint_109 : decode cX10_fingerprint 109 = .ok (.iconst 4, 1) := by decide +kernel
theorem dX10_fingerprint_110 : decode cX10_fingerprint 110 = .ok (.iaload, 1) := by decide +kernel
theorem dX10_fingerprint_111 : decode cX10_fingerprint 111 = .ok (.i2l, 1) := by decide +kernel
theorem dX10_fingerprint_112 : decode cX10_fingerprint 112 = .ok (.ladd, 1) := by decide +kernel
theorem dX10_fingerprint_113 : decode cX10_fingerprint 113 = .ok (.lmul, 1) := by decide +kernel
theorem dX10_fingerprint_114 : decode cX10_fingerprint 114 = .ok (.aload_n 0, 1) := by decide +kernel
theorem dX10_fingerprint_115 : decode cX10_fingerprint 115 = .ok (.getfield 7, 3) := by decide +kernel
theorem dX10_fingerprint_118 : decode cX10_fingerprint 118 = .ok (.iconst 5, 1) := by decide +kernel
theorem dX10_fingerprint_119 : decode cX10_fingerprint 119 = .ok (.iaload, 1) := by decide +kernel
theorem dX10_fingerprint_120 : decode cX10_fingerprint 120 = .ok (.i2l, 1) := by decide +kernel
theorem dX10_fingerprint_121 : decode cX10_fingerprint 121 = .ok (.ladd, 1) := by decide +kernel
theorem dX10_fingerprint_122 : decode cX10_fingerprint 122 = .ok (.lstore_n 1, 1) := by decide +kernel
theorem dX10_fingerprint_123 : decode cX10_fingerprint 123 = .ok (.iconst 0, 1) := by decide +kernel
theorem dX10_fingerprint_124 : decode cX10_fingerprint 124 = .ok (.istore_n 3, 1) := by decide +kernel
theorem dX10_fingerprint_125 : decode cX10_fingerprint 125 = .ok (.iload_n 3, 1) := by decide +kernel
theorem dX10_fingerprint_126 : decode cX10_fingerprint 126 = .ok (.aload_n 0, 1) := by decide +kernel
theorem dX10_fingerprint_127 : decode cX10_fingerprint 127 = .ok (.getfield 7, 3) := by decide +kernel
theorem dX10_fingerprint_130 : decode cX10_fingerprint 130 = .ok (.iconst 0, 1) := by decide +kernel
theorem dX10_fingerprint_131 : decode cX10_fingerprint 131 = .ok (.iaload, 1) := by decide +kernel
theorem dX10_fingerprint_132 : decode cX10_fingerprint 132 = .ok (.if_icmp .ge 53, 3) := by decide +kernel
theorem dX10_fingerprint_135 : decode cX10_fingerprint 135 = .ok (.iconst 0, 1) := by decide +kernel
theorem dX10_fingerprint_136 : decode cX10_fingerprint 136 = .ok (.istore 4, 2) := by decide +kernel
theorem dX10_fingerprint_138 : decode cX10_fingerprint 138 = .ok (.iload 4, 2) := by decide +kernel
theorem dX10_fingerprint_140 : decode cX10_fingerprint 140 = .ok (.aload_n 0, 1) := by decide +kernel
theorem dX10_fingerprint_141 : decode cX10_fingerprint 141 = .ok (.getfield 7, 3) := by decide +kernel
theorem dX10_fingerprint_144 : decode cX10_fingerprint 144 = .ok (.iconst 0, 1) := by decide +kernel
theorem dX10_fingerprint_145 : decode cX10_fingerprint 145 = .ok (.iaload, 1) := by decide +kernel
theorem dX10_fingerprint_146 : decode cX10_fingerprint 146 = .ok (.if_icmp .ge 33, 3) := by decide +kernel
theorem dX10_fingerprint_149 : decode cX10_fingerprint 149 = .ok (.ldc2_w 206, 3) := by decide +kernel
theorem dX10_fingerprint_152 : decode cX10_fingerprint 152 = .ok (.lload_n 1, 1) := by decide +kernel
theorem dX10_fingerprint_153 : decode cX10_fingerprint 153 = .ok (.lmul, 1) := by decide +kernel
theorem dX10_fingerprint_154 : decode cX10_fingerprint 154 = .ok (.aload_n 0, 1) := by decide +kernel
theorem dX10_fingerprint_155 : decode cX10_fingerprint 155 = .ok (.getfield 7, 3) := by decide +kernel
theorem dX10_fingerprint_158 : decode cX10_fingerprint 158 = .ok (.sipush 570, 3) := by decide +kernel
theorem dX10_fingerprint_161 : decode cX10_fingerprint 161 = .ok (.bipush 8, 2) := by decide +kernel
theorem dX10_fingerprint_163 : decode cX10_fingerprint 163 = .ok (.iload_n 3, 1) := by decide +kernel
theorem dX10_fingerprint_164 : decode cX10_fingerprint 164 = .ok (.imul, 1) := by decide +kernel
theorem dX10_fingerprint_165 : decode cX10_fingerprint 165 = .ok (.iadd, 1) := by decide +kernel
theorem dX10_fingerprint_166 : decode cX10_fingerprint 166 = .ok (.iload 4, 2) := by decide +kernel
theorem dX10_fingerprint_168 : decode cX10_fingerprint 168 = .ok (.iadd, 1) := by decide +kernel
theorem dX10_fingerprint_169 : decode cX10_fingerprint 169 = .ok (.iaload, 1) := by decide +kernel
theorem dX10_fingerprint_170 : decode cX10_fingerprint 170 = .ok (.i2l, 1) := by decide +kernel
theorem dX10_fingerprint_171 : decode cX10_fingerprint 171 = .ok (.ladd, 1) := by decide +kernel
theorem dX10_fingerprint_172 : decode cX10_fingerprint 172 = .ok (.lstore_n 1, 1) := by decide +kernel
theorem dX10_fingerprint_173 : decode cX10_fingerprint 173 = .ok (.iinc 4 1, 3) := by decide +kernel
theorem dX10_fingerprint_176 : decode cX10_fingerprint 176 = .ok (.goto (-38), 3) := by decide +kernel
theorem dX10_fingerprint_179 : decode cX10_fingerprint 179 = .ok (.iinc 3 1, 3) := by decide +kernel
theorem dX10_fingerprint_182 : decode cX10_fingerprint 182 = .ok (.goto (-57), 3) := by decide +kernel
theorem dX10_fingerprint_185 : decode cX10_fingerprint 185 = .ok (.lload_n 1, 1) := by decide +kernel
theorem dX10_fingerprint_186 : decode cX10_fingerprint 186 = .ok (.lreturn, 1) := by decide +kernel
theorem dJ6_bitCount_0f7a4_0 : decode cJ6_bitCount_0f7a4 0 = .ok (.iload_n 0, 1) := by decide +kernel
theorem dJ6_bitCount_0f7a4_1 : decode cJ6_bitCount_0f7a4 1 = .ok (.iload_n 0, 1) := by decide +kernel
theorem dJ6_bitCount_0f7a4_2 : decode cJ6_bitCount_0f7a4 2 = .ok (.iconst 1, 1) := by decide +kernel
theorem dJ6_bitCount_0f7a4_3 : decode cJ6_bitCount_0f7a4 3 = .ok (.iushr, 1) := by decide +kernel
theorem dJ6_bitCount_0f7a4_4 : decode cJ6_bitCount_0f7a4 4 = .ok (.ldc_w 265, 3) := by decide +kernel
theorem dJ6_bitCount_0f7a4_7 : decode cJ6_bitCount_0f7a4 7 = .ok (.iand, 1) := by decide +kernel
theorem dJ6_bitCount_0f7a4_8 : decode cJ6_bitCount_0f7a4 8 = .ok (.isub, 1) := by decide +kernel
theorem dJ6_bitCount_0f7a4_9 : decode cJ6_bitCount_0f7a4 9 = .ok (.istore_n 0, 1) := by decide +kernel
theorem dJ6_bitCount_0f7a4_10 : decode cJ6_bitCount_0f7a4 10 = .ok (.iload_n 0, 1) := by decide +kernel
theorem dJ6_bitCount_0f7a4_11 : decode cJ6_bitCount_0f7a4 11 = .ok (.ldc_w 266, 3) := by decide +kernel
theorem dJ6_bitCount_0f7a4_14 : decode cJ6_bitCount_0f7a4 14 = .ok (.iand, 1) := by decide +kernel
theorem dJ6_bitCount_0f7a4_15 : decode cJ6_bitCount_0f7a4 15 = .ok (.iload_n 0, 1) := by decide +kernel
theorem dJ6_bitCount_0f7a4_16 : decode cJ6_bitCount_0f7a4 16 = .ok (.iconst 2, 1) := by decide +kernel
theorem dJ6_bitCount_0f7a4_17 : decode cJ6_bitCount_0f7a4 17 = .ok (.iushr, 1) := by decide +kernel
theorem dJ6_bitCount_0f7a4_18 : decode cJ6_bitCount_0f7a4 18 = .ok (.ldc_w 266, 3) := by decide +kernel
theorem dJ6_bitCount_0f7a4_21 : decode cJ6_bitCount_0f7a4 21 = .ok (.iand, 1) := by decide +kernel
theorem dJ6_bitCount_0f7a4_22 : decode cJ6_bitCount_0f7a4 22 = .ok (.iadd, 1) := by decide +kernel
theorem dJ6_bitCount_0f7a4_23 : decode cJ6_bitCount_0f7a4 23 = .ok (.istore_n 0, 1) := by decide +kernel
theorem dJ6_bitCount_0f7a4_24 : decode cJ6_bitCount_0f7a4 24 = .ok (.iload_n 0, 1) := by decide +kernel
theorem dJ6_bitCount_0f7a4_25 : decode cJ6_bitCount_0f7a4 25 = .ok (.iload_n 0, 1) := by decide +kernel
theorem dJ6_bitCount_0f7a4_26 : decode cJ6_bitCount_0f7a4 26 = .ok (.iconst 4, 1) := by decide +kernel
theorem dJ6_bitCount_0f7a4_27 : decode cJ6_bitCount_0f7a4 27 = .ok (.iushr, 1) := by decide +kernel
theorem dJ6_bitCount_0f7a4_28 : decode cJ6_bitCount_0f7a4 28 = .ok (.iadd, 1) := by decide +kernel
theorem dJ6_bitCount_0f7a4_29 : decode cJ6_bitCount_0f7a4 29 = .ok (.ldc_w 267, 3) := by decide +kernel
theorem dJ6_bitCount_0f7a4_32 : decode cJ6_bitCount_0f7a4 32 = .ok (.iand, 1) := by decide +kernel
theorem dJ6_bitCount_0f7a4_33 : decode cJ6_bitCount_0f7a4 33 = .ok (.istore_n 0, 1) := by decide +kernel
theorem dJ6_bitCount_0f7a4_34 : decode cJ6_bitCount_0f7a4 34 = .ok (.iload_n 0, 1) := by decide +kernel
theorem dJ6_bitCount_0f7a4_35 : decode cJ6_bitCount_0f7a4 35 = .ok (.iload_n 0, 1) := by decide +kernel
theorem dJ6_bitCount_0f7a4_36 : decode cJ6_bitCount_0f7a4 36 = .ok (.bipush 8, 2) := by decide +kernel
theorem dJ6_bitCount_0f7a4_38 : decode cJ6_bitCount_0f7a4 38 = .ok (.iushr, 1) := by decide +kernel
theorem dJ6_bitCount_0f7a4_39 : decode cJ6_bitCount_0f7a4 39 = .ok (.iadd, 1) := by decide +kernel
theorem dJ6_bitCount_0f7a4_40 : decode cJ6_bitCount_0f7a4 40 = .ok (.istore_n 0, 1) := by decide +kernel
theorem dJ6_bitCount_0f7a4_41 : decode cJ6_bitCount_0f7a4 41 = .ok (.iload_n 0, 1) := by decide +kernel
theorem dJ6_bitCount_0f7a4_42 : decode cJ6_bitCount_0f7a4 42 = .ok (.iload_n 0, 1) := by decide +kernel
theorem dJ6_bitCount_0f7a4_43 : decode cJ6_bitCount_0f7a4 43 = .ok (.bipush 16, 2) := by decide +kernel
theorem dJ6_bitCount_0f7a4_45 : decode cJ6_bitCount_0f7a4 45 = .ok (.iushr, 1) := by decide +kernel
theorem dJ6_bitCount_0f7a4_46 : decode cJ6_bitCount_0f7a4 46 = .ok (.iadd, 1) := by decide +kernel
theorem dJ6_bitCount_0f7a4_47 : decode cJ6_bitCount_0f7a4 47 = .ok (.istore_n 0, 1) := by decide +kernel
theorem dJ6_bitCount_0f7a4_48 : decode cJ6_bitCount_0f7a4 48 = .ok (.iload_n 0, 1) := by decide +kernel
theorem dJ6_bitCount_0f7a4_49 : decode cJ6_bitCount_0f7a4 49 = .ok (.bipush 63, 2) := by decide +kernel
theorem dJ6_bitCount_0f7a4_51 : decode cJ6_bitCount_0f7a4 51 = .ok (.iand, 1) := by decide +kernel
theorem dJ6_bitCount_0f7a4_52 : decode cJ6_bitCount_0f7a4 52 = .ok (.ireturn, 1) := by decide +kernel
theorem dJ9_floorMod_7cf53_0 : decode cJ9_floorMod_7cf53 0 = .ok (.iload_n 0, 1) := by decide +kernel
theorem dJ9_floorMod_7cf53_1 : decode cJ9_floorMod_7cf53 1 = .ok (.iload_n 1, 1) := by decide +kernel
theorem dJ9_floorMod_7cf53_2 : decode cJ9_floorMod_7cf53 2 = .ok (.irem, 1) := by decide +kernel
theorem dJ9_floorMod_7cf53_3 : decode cJ9_floorMod_7cf53 3 = .ok (.istore_n 2, 1) := by decide +kernel
theorem dJ9_floorMod_7cf53_4 : decode cJ9_floorMod_7cf53 4 = .ok (.iload_n 0, 1) := by decide +kernel
theorem dJ9_floorMod_7cf53_5 : decode cJ9_floorMod_7cf53 5 = .ok (.iload_n 1, 1) := by decide +kernel
theorem dJ9_floorMod_7cf53_6 : decode cJ9_floorMod_7cf53 6 = .ok (.ixor, 1) := by decide +kernel
theorem dJ9_floorMod_7cf53_7 : decode cJ9_floorMod_7cf53 7 = .ok (.ifCond .ge 11, 3) := by decide +kernel
theorem dJ9_floorMod_7cf53_10 : decode cJ9_floorMod_7cf53 10 = .ok (.iload_n 2, 1) := by decide +kernel
theorem dJ9_floorMod_7cf53_11 : decode cJ9_floorMod_7cf53 11 = .ok (.ifCond .eq 7, 3) := by decide +kernel
theorem dJ9_floorMod_7cf53_14 : decode cJ9_floorMod_7cf53 14 = .ok (.iload_n 2, 1) := by decide +kernel
theorem dJ9_floorMod_7cf53_15 : decode cJ9_floorMod_7cf53 15 = .ok (.iload_n 1, 1) := by decide +kernel
theorem dJ9_floorMod_7cf53_16 : decode cJ9_floorMod_7cf53 16 = .ok (.iadd, 1) := by decide +kernel
theorem dJ9_floorMod_7cf53_17 : decode cJ9_floorMod_7cf53 17 = .ok (.ireturn, 1) := by decide +kernel
theorem dJ9_floorMod_7cf53_18 : decode cJ9_floorMod_7cf53 18 = .ok (.iload_n 2, 1) := by decide +kernel
theorem dJ9_floorMod_7cf53_19 : decode cJ9_floorMod_7cf53 19 = .ok (.ireturn, 1) := by decide +kernel
theorem dJ9_max_7cf53_0 : decode cJ9_max_7cf53 0 = .ok (.iload_n 0, 1) := by decide +kernel
theorem dJ9_max_7cf53_1 : decode cJ9_max_7cf53 1 = .ok (.iload_n 1, 1) := by decide +kernel
theorem dJ9_max_7cf53_2 : decode cJ9_max_7cf53 2 = .ok (.if_icmp .lt 7, 3) := by decide +kernel
theorem dJ9_max_7cf53_5 : decode cJ9_max_7cf53 5 = .ok (.iload_n 0, 1) := by decide +kernel
theorem dJ9_max_7cf53_6 : decode cJ9_max_7cf53 6 = .ok (.goto 4, 3) := by decide +kernel
theorem dJ9_max_7cf53_9 : decode cJ9_max_7cf53 9 = .ok (.iload_n 1, 1) := by decide +kernel
theorem dJ9_max_7cf53_10 : decode cJ9_max_7cf53 10 = .ok (.ireturn, 1) := by decide +kernel
theorem dJ9_min_7cf53_0 : decode cJ9_min_7cf53 0 = .ok (.iload_n 0, 1) := by decide +kernel
theorem dJ9_min_7cf53_1 : decode cJ9_min_7cf53 1 = .ok (.iload_n 1, 1) := by decide +kernel
theorem dJ9_min_7cf53_2 : decode cJ9_min_7cf53 2 = .ok (.if_icmp .gt 7, 3) := by decide +kernel
theorem dJ9_min_7cf53_5 : decode cJ9_min_7cf53 5 = .ok (.iload_n 0, 1) := by decide +kernel
theorem dJ9_min_7cf53_6 : decode cJ9_min_7cf53 6 = .ok (.goto 4, 3) := by decide +kernel
theorem dJ9_min_7cf53_9 : decode cJ9_min_7cf53 9 = .ok (.iload_n 1, 1) := by decide +kernel
theorem dJ9_min_7cf53_10 : decode cJ9_min_7cf53 10 = .ok (.ireturn, 1) := by decide +kernel
theorem dL_law_0 : decode cL_law 0 = .ok (.new 7, 3) := by decide +kernel
theorem dL_law_3 : decode cL_law 3 = .ok (.dup, 1) := by decide +kernel
theorem dL_law_4 : decode cL_law 4 = .ok (.invokespecial 9, 3) := by decide +kernel
theorem dL_law_7 : decode cL_law 7 = .ok (.astore_n 1, 1) := by decide +kernel
theorem dL_law_8 : decode cL_law 8 = .ok (.new 10, 3) := by decide +kernel
theorem dL_law_11 : decode cL_law 11 = .ok (.dup, 1) := by decide +kernel
theorem dL_law_12 : decode cL_law 12 = .ok (.invokespecial 12, 3) := by decide +kernel
theorem dL_law_15 : decode cL_law 15 = .ok (.astore_n 2, 1) := by decide +kernel
theorem dL_law_16 : decode cL_law 16 = .ok (.iconst 0, 1) := by decide +kernel
theorem dL_law_17 : decode cL_law 17 = .ok (.istore_n 3, 1) := by decide +kernel
theorem dL_law_18 : decode cL_law 18 = .ok (.iload_n 3, 1) := by decide +kernel
theorem dL_law_19 : decode cL_law 19 = .ok (.aload_n 0, 1) := by decide +kernel
theorem dL_law_20 : decode cL_law 20 = .ok (.arraylength, 1) := by decide +kernel
theorem dL_law_21 : decode cL_law 21 = .ok (.bipush 6, 2) := by decide +kernel
theorem dL_law_23 : decode cL_law 23 = .ok (.isub, 1) := by decide +kernel
theorem dL_law_24 : decode cL_law 24 = .ok (.if_icmp .gt 856, 3) := by decide +kernel
theorem dL_law_27 : decode cL_law 27 = .ok (.aload_n 0, 1) := by decide +kernel
theorem dL_law_28 : decode cL_law 28 = .ok (.iload_n 3, 1) := by decide +kernel
theorem dL_law_29 : decode cL_law 29 = .ok (.iaload, 1) := by decide +kernel
theorem dL_law_30 : decode cL_law 30 = .ok (.bipush 31, 2) := by decide +kernel
theorem dL_law_32 : decode cL_law 32 = .ok (.iand, 1) := by decide +kernel
theorem dL_law_33 : decode cL_law 33 = .ok (.tableswitch 841 0 26 #[123, 136, 185, 218, 241, 304, 347, 380, 403, 436, 459, 482, 495, 508, 541, 584, 597, 630, 653, 686, 699, 732, 765, 788, 801, 814, 827], 123) := by decide +kernel
theorem dL_law_156 : decode cL_law 156 = .ok (.aload_n 1, 1) := by decide +kernel
theorem dL_law_157 : decode cL_law 157 = .ok (.invokevirtual 13, 3) := by decide +kernel
theorem dL_law_160 : decode cL_law 160 = .ok (.aload_n 2, 1) := by decide +kernel
theorem dL_law_161 : decode cL_law 161 = .ok (.invokevirtual 17, 3) := by decide +kernel
theorem dL_law_164 : decode cL_law 164 = .ok (.if_icmp .eq 710, 3) := by decide +kernel
theorem dL_law_167 : decode cL_law 167 = .ok (.iconst 0, 1) := by decide +kernel
theorem dL_law_168 : decode cL_law 168 = .ok (.ireturn, 1) := by decide +kernel
theorem dL_law_169 : decode cL_law 169 = .ok (.aload_n 1, 1) := by decide +kernel
theorem dL_law_170 : decode cL_law 170 = .ok (.aload_n 0, 1) := by decide +kernel
theorem dL_law_171 : decode cL_law 171 = .ok (.iload_n 3, 1) := by decide +kernel
theorem dL_law_172 : decode cL_law 172 = .ok (.iconst 1, 1) := by decide +kernel
theorem dL_law_173 : decode cL_law 173 = .ok (.iadd, 1) := by decide +kernel
theorem dL_law_174 : decode cL_law 174 = .ok (.iaload, 1) := by decide +kernel
theorem dL_law_175 : decode cL_law 175 = .ok (.aload_n 0, 1) := by decide +kernel
theorem dL_law_176 : decode cL_law 176 = .ok (.iload_n 3, 1) := by decide +kernel
theorem dL_law_177 : decode cL_law 177 = .ok (.iconst 2, 1) := by decide +kernel
theorem dL_law_178 : decode cL_law 178 = .ok (.iadd, 1) := by decide +kernel
theorem dL_law_179 : decode cL_law 179 = .ok (.iaload, 1) := by decide +kernel
theorem dL_law_180 : decode cL_law 180 = .ok (.ifCond .eq 7, 3) := by decide +kernel
theorem dL_law_183 : decode cL_law 183 = .ok (.iconst 1, 1) := by decide +kernel
theorem dL_law_184 : decode cL_law 184 = .ok (.goto 4, 3) := by decide +kernel
theorem dL_law_187 : decode cL_law 187 = .ok (.iconst 0, 1) := by decide +kernel
theorem dL_law_188 : decode cL_law 188 = .ok (.invokevirtual 18, 3) := by decide +kernel
theorem dL_law_191 : decode cL_law 191 = .ok (.aload_n 2, 1) := by decide +kernel
theorem dL_law_192 : decode cL_law 192 = .ok (.aload_n 0, 1) := by decide +kernel
theorem dL_law_193 : decode cL_law 193 = .ok (.iload_n 3, 1) := by decide +kernel
theorem dL_law_194 : decode cL_law 194 = .ok (.iconst 1, 1) := by decide +kernel
theorem dL_law_195 : decode cL_law 195 = .ok (.iadd, 1) := by decide +kernel
theorem dL_law_196 : decode cL_law 196 = .ok (.iaload, 1) := by decide +kernel
theorem dL_law_197 : decode cL_law 197 = .ok (.aload_n 0, 1) := by decide +kernel
theorem dL_law_198 : decode cL_law 198 = .ok (.iload_n 3, 1) := by decide +kernel
theorem dL_law_199 : decode cL_law 199 = .ok (.iconst 2, 1) := by decide +kernel
theorem dL_law_200 : decode cL_law 200 = .ok (.iadd, 1) := by decide +kernel
theorem dL_law_201 : decode cL_law 201 = .ok (.iaload, 1) := by decide +kernel
theorem dL_law_202 : decode cL_law 202 = .ok (.ifCond .eq 7, 3) := by decide +kernel
theorem dL_law_205 : decode cL_law 205 = .ok (.iconst 1, 1) := by decide +kernel
theorem dL_law_206 : decode cL_law 206 = .ok (.goto 4, 3) := by decide +kernel
theorem dL_law_209 : decode cL_law 209 = .ok (.iconst 0, 1) := by decide +kernel
theorem dL_law_210 : decode cL_law 210 = .ok (.invokevirtual 22, 3) := by decide +kernel
theorem dL_law_213 : decode cL_law 213 = .ok (.if_icmp .eq 661, 3) := by decide +kernel
theorem dL_law_216 : decode cL_law 216 = .ok (.iconst 0, 1) := by decide +kernel
theorem dL_law_217 : decode cL_law 217 = .ok (.ireturn, 1) := by decide +kernel
theorem dL_law_218 : decode cL_law 218 = .ok (.aload_n 1, 1) := by decide +kernel
theorem dL_law_219 : decode cL_law 219 = .ok (.aload_n 0, 1) := by decide +kernel
theorem dL_law_220 : decode cL_law 220 = .ok (.iload_n 3, 1) := by decide +kernel
theorem dL_law_221 : decode cL_law 221 = .ok (.iconst 1, 1) := by decide +kernel
theorem dL_law_222 : decode cL_law 222 = .ok (.iadd, 1) := by decide +kernel
theorem dL_law_223 : decode cL_law 223 = .ok (.iaload, 1) := by decide +kernel
theorem dL_law_224 : decode cL_law 224 = .ok (.aload_n 0, 1) := by decide +kernel
theorem dL_law_225 : decode cL_law 225 = .ok (.iload_n 3, 1) := by decide +kernel
theorem dL_law_226 : decode cL_law 226 = .ok (.iconst 2, 1) := by decide +kernel
theorem dL_law_227 : decode cL_law 227 = .ok (.iadd, 1) := by decide +kernel
theorem dL_law_228 : decode cL_law 228 = .ok (.iaload, 1) := by decide +kernel
theorem dL_law_229 : decode cL_law 229 = .ok (.invokevirtual 23, 3) := by decide +kernel
theorem dL_law_232 : decode cL_law 232 = .ok (.aload_n 2, 1) := by decide +kernel
theorem dL_law_233 : decode cL_law 233 = .ok (.aload_n 0, 1) := by decide +kernel
theorem dL_law_234 : decode cL_law 234 = .ok (.iload_n 3, 1) := by decide +kernel
theorem dL_law_235 : decode cL_law 235 = .ok (.iconst 1, 1) := by decide +kernel
theorem dL_law_236 : decode cL_law 236 = .ok (.iadd, 1) := by decide +kernel
theorem dL_law_237 : decode cL_law 237 = .ok (.iaload, 1) := by decide +kernel
theorem dL_law_238 : decode cL_law 238 = .ok (.aload_n 0, 1) := by decide +kernel
theorem dL_law_239 : decode cL_law 239 = .ok (.iload_n 3, 1) := by decide +kernel
theorem dL_law_240 : decode cL_law 240 = .ok (.iconst 2, 1) := by decide +kernel
theorem dL_law_241 : decode cL_law 241 = .ok (.iadd, 1) := by decide +kernel
theorem dL_law_242 : decode cL_law 242 = .ok (.iaload, 1) := by decide +kernel
theorem dL_law_243 : decode cL_law 243 = .ok (.invokevirtual 27, 3) := by decide +kernel
theorem dL_law_246 : decode cL_law 246 = .ok (.if_icmp .eq 628, 3) := by decide +kernel
theorem dL_law_249 : decode cL_law 249 = .ok (.iconst 0, 1) := by decide +kernel
theorem dL_law_250 : decode cL_law 250 = .ok (.ireturn, 1) := by decide +kernel
theorem dL_law_251 : decode cL_law 251 = .ok (.aload_n 1, 1) := by decide +kernel
theorem dL_law_252 : decode cL_law 252 = .ok (.aload_n 0, 1) := by decide +kernel
theorem dL_law_253 : decode cL_law 253 = .ok (.iload_n 3, 1) := by decide +kernel
theorem dL_law_254 : decode cL_law 254 = .ok (.iconst 1, 1) := by decide +kernel
theorem dL_law_255 : decode cL_law 255 = .ok (.iadd, 1) := by decide +kernel
theorem dL_law_256 : decode cL_law 256 = .ok (.iaload, 1) := by decide +kernel
theorem dL_law_257 : decode cL_law 257 = .ok (.invokevirtual 28, 3) := by decide +kernel
theorem dL_law_260 : decode cL_law 260 = .ok (.aload_n 2, 1) := by decide +kernel
theorem dL_law_261 : decode cL_law 261 = .ok (.aload_n 0, 1) := by decide +kernel
theorem dL_law_262 : decode cL_law 262 = .ok (.iload_n 3, 1) := by decide +kernel
theorem dL_law_263 : decode cL_law 263 = .ok (.iconst 1, 1) := by decide +kernel
theorem dL_law_264 : decode cL_law 264 = .ok (.iadd, 1) := by decide +kernel
theorem dL_law_265 : decode cL_law 265 = .ok (.iaload, 1) := by decide +kernel
theorem dL_law_266 : decode cL_law 266 = .ok (.invokevirtual 32, 3) := by decide +kernel
theorem dL_law_269 : decode cL_law 269 = .ok (.if_icmp .eq 605, 3) := by decide +kernel
theorem dL_law_272 : decode cL_law 272 = .ok (.iconst 0, 1) := by decide +kernel
theorem dL_law_273 : decode cL_law 273 = .ok (.ireturn, 1) := by decide +kernel
theorem dL_law_274 : decode cL_law 274 = .ok (.aload_n 1, 1) := by decide +kernel
theorem dL_law_275 : decode cL_law 275 = .ok (.aload_n 0, 1) := by decide +kernel
theorem dL_law_276 : decode cL_law 276 = .ok (.iload_n 3, 1) := by decide +kernel
theorem dL_law_277 : decode cL_law 277 = .ok (.iconst 1, 1) := by decide +kernel
theorem dL_law_278 : decode cL_law 278 = .ok (.iadd, 1) := by decide +kernel
theorem dL_law_279 : decode cL_law 279 = .ok (.iaload, 1) := by decide +kernel
theorem dL_law_280 : decode cL_law 280 = .ok (.aload_n 0, 1) := by decide +kernel
theorem dL_law_281 : decode cL_law 281 = .ok (.iload_n 3, 1) := by decide +kernel
theorem dL_law_282 : decode cL_law 282 = .ok (.iconst 2, 1) := by decide +kernel
theorem dL_law_283 : decode cL_law 283 = .ok (.iadd, 1) := by decide +kernel
theorem dL_law_284 : decode cL_law 284 = .ok (.iaload, 1) := by decide +kernel
theorem dL_law_285 : decode cL_law 285 = .ok (.aload_n 0, 1) := by decide +kernel
theorem dL_law_286 : decode cL_law 286 = .ok (.iload_n 3, 1) := by decide +kernel
theorem dL_law_287 : decode cL_law 287 = .ok (.iconst 3, 1) := by decide +kernel
theorem dL_law_288 : decode cL_law 288 = .ok (.iadd, 1) := by decide +kernel
theorem dL_law_289 : decode cL_law 289 = .ok (.iaload, 1) := by decide +kernel
theorem dL_law_290 : decode cL_law 290 = .ok (.aload_n 0, 1) := by decide +kernel
theorem dL_law_291 : decode cL_law 291 = .ok (.iload_n 3, 1) := by decide +kernel
theorem dL_law_292 : decode cL_law 292 = .ok (.iconst 4, 1) := by decide +kernel
theorem dL_law_293 : decode cL_law 293 = .ok (.iadd, 1) := by decide +kernel
theorem dL_law_294 : decode cL_law 294 = .ok (.iaload, 1) := by decide +kernel
theorem dL_law_295 : decode cL_law 295 = .ok (.aload_n 0, 1) := by decide +kernel
theorem dL_law_296 : decode cL_law 296 = .ok (.iload_n 3, 1) := by decide +kernel
theorem dL_law_297 : decode cL_law 297 = .ok (.iconst 5, 1) := by decide +kernel
theorem dL_law_298 : decode cL_law 298 = .ok (.iadd, 1) := by decide +kernel
theorem dL_law_299 : decode cL_law 299 = .ok (.iaload, 1) := by decide +kernel
theorem dL_law_300 : decode cL_law 300 = .ok (.invokevirtual 33, 3) := by decide +kernel
theorem dL_law_303 : decode cL_law 303 = .ok (.aload_n 2, 1) := by decide +kernel
theorem dL_law_304 : decode cL_law 304 = .ok (.aload_n 0, 1) := by decide +kernel
theorem dL_law_305 : decode cL_law 305 = .ok (.iload_n 3, 1) := by decide +kernel
theorem dL_law_306 : decode cL_law 306 = .ok (.iconst 1, 1) := by decide +kernel
theorem dL_law_307 : decode cL_law 307 = .ok (.iadd, 1) := by decide +kernel
theorem dL_law_308 : decode cL_law 308 = .ok (.iaload, 1) := by decide +kernel
theorem dL_law_309 : decode cL_law 309 = .ok (.aload_n 0, 1) := by decide +kernel
theorem dL_law_310 : decode cL_law 310 = .ok (.iload_n 3, 1) := by decide +kernel
theorem dL_law_311 : decode cL_law 311 = .ok (.iconst 2, 1) := by decide +kernel
theorem dL_law_312 : decode cL_law 312 = .ok (.iadd, 1) := by decide +kernel
theorem dL_law_313 : decode cL_law 313 = .ok (.iaload, 1) := by decide +kernel
theorem dL_law_314 : decode cL_law 314 = .ok (.aload_n 0, 1) := by decide +kernel
theorem dL_law_315 : decode cL_law 315 = .ok (.iload_n 3, 1) := by decide +kernel
theorem dL_law_316 : decode cL_law 316 = .ok (.iconst 3, 1) := by decide +kernel
theorem dL_law_317 : decode cL_law 317 = .ok (.iadd, 1) := by decide +kernel
theorem dL_law_318 : decode cL_law 318 = .ok (.iaload, 1) := by decide +kernel
theorem dL_law_319 : decode cL_law 319 = .ok (.aload_n 0, 1) := by decide +kernel
theorem dL_law_320 : decode cL_law 320 = .ok (.iload_n 3, 1) := by decide +kernel
theorem dL_law_321 : decode cL_law 321 = .ok (.iconst 4, 1) := by decide +kernel
theorem dL_law_322 : decode cL_law 322 = .ok (.iadd, 1) := by decide +kernel
theorem dL_law_323 : decode cL_law 323 = .ok (.iaload, 1) := by decide +kernel
theorem dL_law_324 : decode cL_law 324 = .ok (.aload_n 0, 1) := by decide +kernel
theorem dL_law_325 : decode cL_law 325 = .ok (.iload_n 3, 1) := by decide +kernel
theorem dL_law_326 : decode cL_law 326 = .ok (.iconst 5, 1) := by decide +kernel
theorem dL_law_327 : decode cL_law 327 = .ok (.iadd, 1) := by decide +kernel
theorem dL_law_328 : decode cL_law 328 = .ok (.iaload, 1) := by decide +kernel
theorem dL_law_329 : decode cL_law 329 = .ok (.invokevirtual 37, 3) := by decide +kernel
theorem dL_law_332 : decode cL_law 332 = .ok (.if_icmp .eq 542, 3) := by decide +kernel
theorem dL_law_335 : decode cL_law 335 = .ok (.iconst 0, 1) := by decide +kernel
theorem dL_law_336 : decode cL_law 336 = .ok (.ireturn, 1) := by decide +kernel
theorem dL_law_337 : decode cL_law 337 = .ok (.aload_n 1, 1) := by decide +kernel
theorem dL_law_338 : decode cL_law 338 = .ok (.aload_n 0, 1) := by decide +kernel
theorem dL_law_339 : decode cL_law 339 = .ok (.iload_n 3, 1) := by decide +kernel
theorem dL_law_340 : decode cL_law 340 = .ok (.iconst 1, 1) := by decide +kernel
theorem dL_law_341 : decode cL_law 341 = .ok (.iadd, 1) := by decide +kernel
theorem dL_law_342 : decode cL_law 342 = .ok (.iaload, 1) := by decide +kernel
theorem dL_law_343 : decode cL_law 343 = .ok (.aload_n 0, 1) := by decide +kernel
theorem dL_law_344 : decode cL_law 344 = .ok (.iload_n 3, 1) := by decide +kernel
theorem dL_law_345 : decode cL_law 345 = .ok (.iconst 2, 1) := by decide +kernel
theorem dL_law_346 : decode cL_law 346 = .ok (.iadd, 1) := by decide +kernel
theorem dL_law_347 : decode cL_law 347 = .ok (.iaload, 1) := by decide +kernel
theorem dL_law_348 : decode cL_law 348 = .ok (.aload_n 0, 1) := by decide +kernel
theorem dL_law_349 : decode cL_law 349 = .ok (.iload_n 3, 1) := by decide +kernel
theorem dL_law_350 : decode cL_law 350 = .ok (.iconst 3, 1) := by decide +kernel
theorem dL_law_351 : decode cL_law 351 = .ok (.iadd, 1) := by decide +kernel
theorem dL_law_352 : decode cL_law 352 = .ok (.iaload, 1) := by decide +kernel
theorem dL_law_353 : decode cL_law 353 = .ok (.invokevirtual 38, 3) := by decide +kernel
theorem dL_law_356 : decode cL_law 356 = .ok (.aload_n 2, 1) := by decide +kernel
theorem dL_law_357 : decode cL_law 357 = .ok (.aload_n 0, 1) := by decide +kernel
theorem dL_law_358 : decode cL_law 358 = .ok (.iload_n 3, 1) := by decide +kernel
theorem dL_law_359 : decode cL_law 359 = .ok (.iconst 1, 1) := by decide +kernel
theorem dL_law_360 : decode cL_law 360 = .ok (.iadd, 1) := by decide +kernel
theorem dL_law_361 : decode cL_law 361 = .ok (.iaload, 1) := by decide +kernel
theorem dL_law_362 : decode cL_law 362 = .ok (.aload_n 0, 1) := by decide +kernel
theorem dL_law_363 : decode cL_law 363 = .ok (.iload_n 3, 1) := by decide +kernel
theorem dL_law_364 : decode cL_law 364 = .ok (.iconst 2, 1) := by decide +kernel
theorem dL_law_365 : decode cL_law 365 = .ok (.iadd, 1) := by decide +kernel
theorem dL_law_366 : decode cL_law 366 = .ok (.iaload, 1) := by decide +kernel
theorem dL_law_367 : decode cL_law 367 = .ok (.aload_n 0, 1) := by decide +kernel
theorem dL_law_368 : decode cL_law 368 = .ok (.iload_n 3, 1) := by decide +kernel
theorem dL_law_369 : decode cL_law 369 = .ok (.iconst 3, 1) := by decide +kernel
theorem dL_law_370 : decode cL_law 370 = .ok (.iadd, 1) := by decide +kernel
theorem dL_law_371 : decode cL_law 371 = .ok (.iaload, 1) := by decide +kernel
theorem dL_law_372 : decode cL_law 372 = .ok (.invokevirtual 42, 3) := by decide +kernel
theorem dL_law_375 : decode cL_law 375 = .ok (.if_icmp .eq 499, 3) := by decide +kernel
theorem dL_law_378 : decode cL_law 378 = .ok (.iconst 0, 1) := by decide +kernel
theorem dL_law_379 : decode cL_law 379 = .ok (.ireturn, 1) := by decide +kernel
theorem dL_law_380 : decode cL_law 380 = .ok (.aload_n 1, 1) := by decide +kernel
theorem dL_law_381 : decode cL_law 381 = .ok (.aload_n 0, 1) := by decide +kernel
theorem dL_law_382 : decode cL_law 382 = .ok (.iload_n 3, 1) := by decide +kernel
theorem dL_law_383 : decode cL_law 383 = .ok (.iconst 1, 1) := by decide +kernel
theorem dL_law_384 : decode cL_law 384 = .ok (.iadd, 1) := by decide +kernel
theorem dL_law_385 : decode cL_law 385 = .ok (.iaload, 1) := by decide +kernel
theorem dL_law_386 : decode cL_law 386 = .ok (.aload_n 0, 1) := by decide +kernel
theorem dL_law_387 : decode cL_law 387 = .ok (.iload_n 3, 1) := by decide +kernel
theorem dL_law_388 : decode cL_law 388 = .ok (.iconst 2, 1) := by decide +kernel
theorem dL_law_389 : decode cL_law 389 = .ok (.iadd, 1) := by decide +kernel
theorem dL_law_390 : decode cL_law 390 = .ok (.iaload, 1) := by decide +kernel
theorem dL_law_391 : decode cL_law 391 = .ok (.invokevirtual 43, 3) := by decide +kernel
theorem dL_law_394 : decode cL_law 394 = .ok (.aload_n 2, 1) := by decide +kernel
theorem dL_law_395 : decode cL_law 395 = .ok (.aload_n 0, 1) := by decide +kernel
theorem dL_law_396 : decode cL_law 396 = .ok (.iload_n 3, 1) := by decide +kernel
theorem dL_law_397 : decode cL_law 397 = .ok (.iconst 1, 1) := by decide +kernel
theorem dL_law_398 : decode cL_law 398 = .ok (.iadd, 1) := by decide +kernel
theorem dL_law_399 : decode cL_law 399 = .ok (.iaload, 1) := by decide +kernel
theorem dL_law_400 : decode cL_law 400 = .ok (.aload_n 0, 1) := by decide +kernel
theorem dL_law_401 : decode cL_law 401 = .ok (.iload_n 3, 1) := by decide +kernel
theorem dL_law_402 : decode cL_law 402 = .ok (.iconst 2, 1) := by decide +kernel
theorem dL_law_403 : decode cL_law 403 = .ok (.iadd, 1) := by decide +kernel
theorem dL_law_404 : decode cL_law 404 = .ok (.iaload, 1) := by decide +kernel
theorem dL_law_405 : decode cL_law 405 = .ok (.invokevirtual 46, 3) := by decide +kernel
theorem dL_law_408 : decode cL_law 408 = .ok (.if_icmp .eq 466, 3) := by decide +kernel
theorem dL_law_411 : decode cL_law 411 = .ok (.iconst 0, 1) := by decide +kernel
theorem dL_law_412 : decode cL_law 412 = .ok (.ireturn, 1) := by decide +kernel
theorem dL_law_413 : decode cL_law 413 = .ok (.aload_n 1, 1) := by decide +kernel
theorem dL_law_414 : decode cL_law 414 = .ok (.aload_n 0, 1) := by decide +kernel
theorem dL_law_415 : decode cL_law 415 = .ok (.iload_n 3, 1) := by decide +kernel
theorem dL_law_416 : decode cL_law 416 = .ok (.iconst 1, 1) := by decide +kernel
theorem dL_law_417 : decode cL_law 417 = .ok (.iadd, 1) := by decide +kernel
theorem dL_law_418 : decode cL_law 418 = .ok (.iaload, 1) := by decide +kernel
theorem dL_law_419 : decode cL_law 419 = .ok (.invokevirtual 47, 3) := by decide +kernel
theorem dL_law_422 : decode cL_law 422 = .ok (.aload_n 2, 1) := by decide +kernel
theorem dL_law_423 : decode cL_law 423 = .ok (.aload_n 0, 1) := by decide +kernel
theorem dL_law_424 : decode cL_law 424 = .ok (.iload_n 3, 1) := by decide +kernel
theorem dL_law_425 : decode cL_law 425 = .ok (.iconst 1, 1) := by decide +kernel
theorem dL_law_426 : decode cL_law 426 = .ok (.iadd, 1) := by decide +kernel
theorem dL_law_427 : decode cL_law 427 = .ok (.iaload, 1) := by decide +kernel
theorem dL_law_428 : decode cL_law 428 = .ok (.invokevirtual 50, 3) := by decide +kernel
theorem dL_law_431 : decode cL_law 431 = .ok (.if_icmp .eq 443, 3) := by decide +kernel
theorem dL_law_434 : decode cL_law 434 = .ok (.iconst 0, 1) := by decide +kernel
theorem dL_law_435 : decode cL_law 435 = .ok (.ireturn, 1) := by decide +kernel
theorem dL_law_436 : decode cL_law 436 = .ok (.aload_n 1, 1) := by decide +kernel
theorem dL_law_437 : decode cL_law 437 = .ok (.aload_n 0, 1) := by decide +kernel
theorem dL_law_438 : decode cL_law 438 = .ok (.iload_n 3, 1) := by decide +kernel
theorem dL_law_439 : decode cL_law 439 = .ok (.iconst 1, 1) := by decide +kernel
theorem dL_law_440 : decode cL_law 440 = .ok (.iadd, 1) := by decide +kernel
theorem dL_law_441 : decode cL_law 441 = .ok (.iaload, 1) := by decide +kernel
theorem dL_law_442 : decode cL_law 442 = .ok (.aload_n 0, 1) := by decide +kernel
theorem dL_law_443 : decode cL_law 443 = .ok (.iload_n 3, 1) := by decide +kernel
theorem dL_law_444 : decode cL_law 444 = .ok (.iconst 2, 1) := by decide +kernel
theorem dL_law_445 : decode cL_law 445 = .ok (.iadd, 1) := by decide +kernel
theorem dL_law_446 : decode cL_law 446 = .ok (.iaload, 1) := by decide +kernel
theorem dL_law_447 : decode cL_law 447 = .ok (.invokevirtual 51, 3) := by decide +kernel
theorem dL_law_450 : decode cL_law 450 = .ok (.aload_n 2, 1) := by decide +kernel
theorem dL_law_451 : decode cL_law 451 = .ok (.aload_n 0, 1) := by decide +kernel
theorem dL_law_452 : decode cL_law 452 = .ok (.iload_n 3, 1) := by decide +kernel
theorem dL_law_453 : decode cL_law 453 = .ok (.iconst 1, 1) := by decide +kernel
theorem dL_law_454 : decode cL_law 454 = .ok (.iadd, 1) := by decide +kernel
theorem dL_law_455 : decode cL_law 455 = .ok (.iaload, 1) := by decide +kernel
theorem dL_law_456 : decode cL_law 456 = .ok (.aload_n 0, 1) := by decide +kernel
theorem dL_law_457 : decode cL_law 457 = .ok (.iload_n 3, 1) := by decide +kernel
theorem dL_law_458 : decode cL_law 458 = .ok (.iconst 2, 1) := by decide +kernel
theorem dL_law_459 : decode cL_law 459 = .ok (.iadd, 1) := by decide +kernel
theorem dL_law_460 : decode cL_law 460 = .ok (.iaload, 1) := by decide +kernel
theorem dL_law_461 : decode cL_law 461 = .ok (.invokevirtual 54, 3) := by decide +kernel
theorem dL_law_464 : decode cL_law 464 = .ok (.if_icmp .eq 410, 3) := by decide +kernel
theorem dL_law_467 : decode cL_law 467 = .ok (.iconst 0, 1) := by decide +kernel
theorem dL_law_468 : decode cL_law 468 = .ok (.ireturn, 1) := by decide +kernel
theorem dL_law_469 : decode cL_law 469 = .ok (.aload_n 1, 1) := by decide +kernel
theorem dL_law_470 : decode cL_law 470 = .ok (.aload_n 0, 1) := by decide +kernel
theorem dL_law_471 : decode cL_law 471 = .ok (.iload_n 3, 1) := by decide +kernel
theorem dL_law_472 : decode cL_law 472 = .ok (.iconst 1, 1) := by decide +kernel
theorem dL_law_473 : decode cL_law 473 = .ok (.iadd, 1) := by decide +kernel
theorem dL_law_474 : decode cL_law 474 = .ok (.iaload, 1) := by decide +kernel
theorem dL_law_475 : decode cL_law 475 = .ok (.invokevirtual 55, 3) := by decide +kernel
theorem dL_law_478 : decode cL_law 478 = .ok (.aload_n 2, 1) := by decide +kernel
theorem dL_law_479 : decode cL_law 479 = .ok (.aload_n 0, 1) := by decide +kernel
theorem dL_law_480 : decode cL_law 480 = .ok (.iload_n 3, 1) := by decide +kernel
theorem dL_law_481 : decode cL_law 481 = .ok (.iconst 1, 1) := by decide +kernel
theorem dL_law_482 : decode cL_law 482 = .ok (.iadd, 1) := by decide +kernel
theorem dL_law_483 : decode cL_law 483 = .ok (.iaload, 1) := by decide +kernel
theorem dL_law_484 : decode cL_law 484 = .ok (.invokevirtual 58, 3) := by decide +kernel
theorem dL_law_487 : decode cL_law 487 = .ok (.if_icmp .eq 387, 3) := by decide +kernel
theorem dL_law_490 : decode cL_law 490 = .ok (.iconst 0, 1) := by decide +kernel
theorem dL_law_491 : decode cL_law 491 = .ok (.ireturn, 1) := by decide +kernel
theorem dL_law_492 : decode cL_law 492 = .ok (.aload_n 1, 1) := by decide +kernel
theorem dL_law_493 : decode cL_law 493 = .ok (.aload_n 0, 1) := by decide +kernel
theorem dL_law_494 : decode cL_law 494 = .ok (.iload_n 3, 1) := by decide +kernel
theorem dL_law_495 : decode cL_law 495 = .ok (.iconst 1, 1) := by decide +kernel
theorem dL_law_496 : decode cL_law 496 = .ok (.iadd, 1) := by decide +kernel
theorem dL_law_497 : decode cL_law 497 = .ok (.iaload, 1) := by decide +kernel
theorem dL_law_498 : decode cL_law 498 = .ok (.invokevirtual 59, 3) := by decide +kernel
theorem dL_law_501 : decode cL_law 501 = .ok (.aload_n 2, 1) := by decide +kernel
theorem dL_law_502 : decode cL_law 502 = .ok (.aload_n 0, 1) := by decide +kernel
theorem dL_law_503 : decode cL_law 503 = .ok (.iload_n 3, 1) := by decide +kernel
theorem dL_law_504 : decode cL_law 504 = .ok (.iconst 1, 1) := by decide +kernel
theorem dL_law_505 : decode cL_law 505 = .ok (.iadd, 1) := by decide +kernel
theorem dL_law_506 : decode cL_law 506 = .ok (.iaload, 1) := by decide +kernel
theorem dL_law_507 : decode cL_law 507 = .ok (.invokevirtual 62, 3) := by decide +kernel
theorem dL_law_510 : decode cL_law 510 = .ok (.if_icmp .eq 364, 3) := by decide +kernel
theorem dL_law_513 : decode cL_law 513 = .ok (.iconst 0, 1) := by decide +kernel
theorem dL_law_514 : decode cL_law 514 = .ok (.ireturn, 1) := by decide +kernel
theorem dL_law_515 : decode cL_law 515 = .ok (.aload_n 1, 1) := by decide +kernel
theorem dL_law_516 : decode cL_law 516 = .ok (.invokevirtual 63, 3) := by decide +kernel
theorem dL_law_519 : decode cL_law 519 = .ok (.aload_n 2, 1) := by decide +kernel
theorem dL_law_520 : decode cL_law 520 = .ok (.invokevirtual 66, 3) := by decide +kernel
theorem dL_law_523 : decode cL_law 523 = .ok (.if_icmp .eq 351, 3) := by decide +kernel
theorem dL_law_526 : decode cL_law 526 = .ok (.iconst 0, 1) := by decide +kernel
theorem dL_law_527 : decode cL_law 527 = .ok (.ireturn, 1) := by decide +kernel
theorem dL_law_528 : decode cL_law 528 = .ok (.aload_n 1, 1) := by decide +kernel
theorem dL_law_529 : decode cL_law 529 = .ok (.invokevirtual 67, 3) := by decide +kernel
theorem dL_law_532 : decode cL_law 532 = .ok (.aload_n 2, 1) := by decide +kernel
theorem dL_law_533 : decode cL_law 533 = .ok (.invokevirtual 70, 3) := by decide +kernel
theorem dL_law_536 : decode cL_law 536 = .ok (.if_icmp .eq 338, 3) := by decide +kernel
theorem dL_law_539 : decode cL_law 539 = .ok (.iconst 0, 1) := by decide +kernel
theorem dL_law_540 : decode cL_law 540 = .ok (.ireturn, 1) := by decide +kernel
theorem dL_law_541 : decode cL_law 541 = .ok (.aload_n 1, 1) := by decide +kernel
theorem dL_law_542 : decode cL_law 542 = .ok (.aload_n 0, 1) := by decide +kernel
theorem dL_law_543 : decode cL_law 543 = .ok (.iload_n 3, 1) := by decide +kernel
theorem dL_law_544 : decode cL_law 544 = .ok (.iconst 1, 1) := by decide +kernel
theorem dL_law_545 : decode cL_law 545 = .ok (.iadd, 1) := by decide +kernel
theorem dL_law_546 : decode cL_law 546 = .ok (.iaload, 1) := by decide +kernel
theorem dL_law_547 : decode cL_law 547 = .ok (.aload_n 0, 1) := by decide +kernel
theorem dL_law_548 : decode cL_law 548 = .ok (.iload_n 3, 1) := by decide +kernel
theorem dL_law_549 : decode cL_law 549 = .ok (.iconst 2, 1) := by decide +kernel
theorem dL_law_550 : decode cL_law 550 = .ok (.iadd, 1) := by decide +kernel
theorem dL_law_551 : decode cL_law 551 = .ok (.iaload, 1) := by decide +kernel
theorem dL_law_552 : decode cL_law 552 = .ok (.invokevirtual 71, 3) := by decide +kernel
theorem dL_law_555 : decode cL_law 555 = .ok (.aload_n 2, 1) := by decide +kernel
theorem dL_law_556 : decode cL_law 556 = .ok (.aload_n 0, 1) := by decide +kernel
theorem dL_law_557 : decode cL_law 557 = .ok (.iload_n 3, 1) := by decide +kernel
theorem dL_law_558 : decode cL_law 558 = .ok (.iconst 1, 1) := by decide +kernel
theorem dL_law_559 : decode cL_law 559 = .ok (.iadd, 1) := by decide +kernel
theorem dL_law_560 : decode cL_law 560 = .ok (.iaload, 1) := by decide +kernel
theorem dL_law_561 : decode cL_law 561 = .ok (.aload_n 0, 1) := by decide +kernel
theorem dL_law_562 : decode cL_law 562 = .ok (.iload_n 3, 1) := by decide +kernel
theorem dL_law_563 : decode cL_law 563 = .ok (.iconst 2, 1) := by decide +kernel
theorem dL_law_564 : decode cL_law 564 = .ok (.iadd, 1) := by decide +kernel
theorem dL_law_565 : decode cL_law 565 = .ok (.iaload, 1) := by decide +kernel
theorem dL_law_566 : decode cL_law 566 = .ok (.invokevirtual 74, 3) := by decide +kernel
theorem dL_law_569 : decode cL_law 569 = .ok (.if_icmp .eq 305, 3) := by decide +kernel
theorem dL_law_572 : decode cL_law 572 = .ok (.iconst 0, 1) := by decide +kernel
theorem dL_law_573 : decode cL_law 573 = .ok (.ireturn, 1) := by decide +kernel
theorem dL_law_574 : decode cL_law 574 = .ok (.aload_n 1, 1) := by decide +kernel
theorem dL_law_575 : decode cL_law 575 = .ok (.aload_n 0, 1) := by decide +kernel
theorem dL_law_576 : decode cL_law 576 = .ok (.iload_n 3, 1) := by decide +kernel
theorem dL_law_577 : decode cL_law 577 = .ok (.iconst 1, 1) := by decide +kernel
theorem dL_law_578 : decode cL_law 578 = .ok (.iadd, 1) := by decide +kernel
theorem dL_law_579 : decode cL_law 579 = .ok (.iaload, 1) := by decide +kernel
theorem dL_law_580 : decode cL_law 580 = .ok (.aload_n 0, 1) := by decide +kernel
theorem dL_law_581 : decode cL_law 581 = .ok (.iload_n 3, 1) := by decide +kernel
theorem dL_law_582 : decode cL_law 582 = .ok (.iconst 2, 1) := by decide +kernel
theorem dL_law_583 : decode cL_law 583 = .ok (.iadd, 1) := by decide +kernel
theorem dL_law_584 : decode cL_law 584 = .ok (.iaload, 1) := by decide +kernel
theorem dL_law_585 : decode cL_law 585 = .ok (.aload_n 0, 1) := by decide +kernel
theorem dL_law_586 : decode cL_law 586 = .ok (.iload_n 3, 1) := by decide +kernel
theorem dL_law_587 : decode cL_law 587 = .ok (.iconst 3, 1) := by decide +kernel
theorem dL_law_588 : decode cL_law 588 = .ok (.iadd, 1) := by decide +kernel
theorem dL_law_589 : decode cL_law 589 = .ok (.iaload, 1) := by decide +kernel
theorem dL_law_590 : decode cL_law 590 = .ok (.invokevirtual 75, 3) := by decide +kernel
theorem dL_law_593 : decode cL_law 593 = .ok (.aload_n 2, 1) := by decide +kernel
theorem dL_law_594 : decode cL_law 594 = .ok (.aload_n 0, 1) := by decide +kernel
theorem dL_law_595 : decode cL_law 595 = .ok (.iload_n 3, 1) := by decide +kernel
theorem dL_law_596 : decode cL_law 596 = .ok (.iconst 1, 1) := by decide +kernel
theorem dL_law_597 : decode cL_law 597 = .ok (.iadd, 1) := by decide +kernel
theorem dL_law_598 : decode cL_law 598 = .ok (.iaload, 1) := by decide +kernel
theorem dL_law_599 : decode cL_law 599 = .ok (.aload_n 0, 1) := by decide +kernel
theorem dL_law_600 : decode cL_law 600 = .ok (.iload_n 3, 1) := by decide +kernel
theorem dL_law_601 : decode cL_law 601 = .ok (.iconst 2, 1) := by decide +kernel
theorem dL_law_602 : decode cL_law 602 = .ok (.iadd, 1) := by decide +kernel
theorem dL_law_603 : decode cL_law 603 = .ok (.iaload, 1) := by decide +kernel
theorem dL_law_604 : decode cL_law 604 = .ok (.aload_n 0, 1) := by decide +kernel
theorem dL_law_605 : decode cL_law 605 = .ok (.iload_n 3, 1) := by decide +kernel
theorem dL_law_606 : decode cL_law 606 = .ok (.iconst 3, 1) := by decide +kernel
theorem dL_law_607 : decode cL_law 607 = .ok (.iadd, 1) := by decide +kernel
theorem dL_law_608 : decode cL_law 608 = .ok (.iaload, 1) := by decide +kernel
theorem dL_law_609 : decode cL_law 609 = .ok (.invokevirtual 78, 3) := by decide +kernel
theorem dL_law_612 : decode cL_law 612 = .ok (.if_icmp .eq 262, 3) := by decide +kernel
theorem dL_law_615 : decode cL_law 615 = .ok (.iconst 0, 1) := by decide +kernel
theorem dL_law_616 : decode cL_law 616 = .ok (.ireturn, 1) := by decide +kernel
theorem dL_law_617 : decode cL_law 617 = .ok (.aload_n 1, 1) := by decide +kernel
theorem dL_law_618 : decode cL_law 618 = .ok (.invokevirtual 79, 3) := by decide +kernel
theorem dL_law_621 : decode cL_law 621 = .ok (.aload_n 2, 1) := by decide +kernel
theorem dL_law_622 : decode cL_law 622 = .ok (.invokevirtual 82, 3) := by decide +kernel
theorem dL_law_625 : decode cL_law 625 = .ok (.if_icmp .eq 249, 3) := by decide +kernel
theorem dL_law_628 : decode cL_law 628 = .ok (.iconst 0, 1) := by decide +kernel
theorem dL_law_629 : decode cL_law 629 = .ok (.ireturn, 1) := by decide +kernel
theorem dL_law_630 : decode cL_law 630 = .ok (.aload_n 1, 1) := by decide +kernel
theorem dL_law_631 : decode cL_law 631 = .ok (.aload_n 0, 1) := by decide +kernel
theorem dL_law_632 : decode cL_law 632 = .ok (.iload_n 3, 1) := by decide +kernel
theorem dL_law_633 : decode cL_law 633 = .ok (.iconst 1, 1) := by decide +kernel
theorem dL_law_634 : decode cL_law 634 = .ok (.iadd, 1) := by decide +kernel
theorem dL_law_635 : decode cL_law 635 = .ok (.iaload, 1) := by decide +kernel
theorem dL_law_636 : decode cL_law 636 = .ok (.aload_n 0, 1) := by decide +kernel
theorem dL_law_637 : decode cL_law 637 = .ok (.iload_n 3, 1) := by decide +kernel
theorem dL_law_638 : decode cL_law 638 = .ok (.iconst 2, 1) := by decide +kernel
theorem dL_law_639 : decode cL_law 639 = .ok (.iadd, 1) := by decide +kernel
theorem dL_law_640 : decode cL_law 640 = .ok (.iaload, 1) := by decide +kernel
theorem dL_law_641 : decode cL_law 641 = .ok (.invokevirtual 83, 3) := by decide +kernel
theorem dL_law_644 : decode cL_law 644 = .ok (.aload_n 2, 1) := by decide +kernel
theorem dL_law_645 : decode cL_law 645 = .ok (.aload_n 0, 1) := by decide +kernel
theorem dL_law_646 : decode cL_law 646 = .ok (.iload_n 3, 1) := by decide +kernel
theorem dL_law_647 : decode cL_law 647 = .ok (.iconst 1, 1) := by decide +kernel
theorem dL_law_648 : decode cL_law 648 = .ok (.iadd, 1) := by decide +kernel
theorem dL_law_649 : decode cL_law 649 = .ok (.iaload, 1) := by decide +kernel
theorem dL_law_650 : decode cL_law 650 = .ok (.aload_n 0, 1) := by decide +kernel
theorem dL_law_651 : decode cL_law 651 = .ok (.iload_n 3, 1) := by decide +kernel
theorem dL_law_652 : decode cL_law 652 = .ok (.iconst 2, 1) := by decide +kernel
theorem dL_law_653 : decode cL_law 653 = .ok (.iadd, 1) := by decide +kernel
theorem dL_law_654 : decode cL_law 654 = .ok (.iaload, 1) := by decide +kernel
theorem dL_law_655 : decode cL_law 655 = .ok (.invokevirtual 86, 3) := by decide +kernel
theorem dL_law_658 : decode cL_law 658 = .ok (.if_icmp .eq 216, 3) := by decide +kernel
theorem dL_law_661 : decode cL_law 661 = .ok (.iconst 0, 1) := by decide +kernel
theorem dL_law_662 : decode cL_law 662 = .ok (.ireturn, 1) := by decide +kernel
theorem dL_law_663 : decode cL_law 663 = .ok (.aload_n 1, 1) := by decide +kernel
theorem dL_law_664 : decode cL_law 664 = .ok (.aload_n 0, 1) := by decide +kernel
theorem dL_law_665 : decode cL_law 665 = .ok (.iload_n 3, 1) := by decide +kernel
theorem dL_law_666 : decode cL_law 666 = .ok (.iconst 1, 1) := by decide +kernel
theorem dL_law_667 : decode cL_law 667 = .ok (.iadd, 1) := by decide +kernel
theorem dL_law_668 : decode cL_law 668 = .ok (.iaload, 1) := by decide +kernel
theorem dL_law_669 : decode cL_law 669 = .ok (.invokevirtual 87, 3) := by decide +kernel
theorem dL_law_672 : decode cL_law 672 = .ok (.aload_n 2, 1) := by decide +kernel
theorem dL_law_673 : decode cL_law 673 = .ok (.aload_n 0, 1) := by decide +kernel
theorem dL_law_674 : decode cL_law 674 = .ok (.iload_n 3, 1) := by decide +kernel
theorem dL_law_675 : decode cL_law 675 = .ok (.iconst 1, 1) := by decide +kernel
theorem dL_law_676 : decode cL_law 676 = .ok (.iadd, 1) := by decide +kernel
theorem dL_law_677 : decode cL_law 677 = .ok (.iaload, 1) := by decide +kernel
theorem dL_law_678 : decode cL_law 678 = .ok (.invokevirtual 90, 3) := by decide +kernel
theorem dL_law_681 : decode cL_law 681 = .ok (.if_icmp .eq 193, 3) := by decide +kernel
theorem dL_law_684 : decode cL_law 684 = .ok (.iconst 0, 1) := by decide +kernel
theorem dL_law_685 : decode cL_law 685 = .ok (.ireturn, 1) := by decide +kernel
theorem dL_law_686 : decode cL_law 686 = .ok (.aload_n 1, 1) := by decide +kernel
theorem dL_law_687 : decode cL_law 687 = .ok (.aload_n 0, 1) := by decide +kernel
theorem dL_law_688 : decode cL_law 688 = .ok (.iload_n 3, 1) := by decide +kernel
theorem dL_law_689 : decode cL_law 689 = .ok (.iconst 1, 1) := by decide +kernel
theorem dL_law_690 : decode cL_law 690 = .ok (.iadd, 1) := by decide +kernel
theorem dL_law_691 : decode cL_law 691 = .ok (.iaload, 1) := by decide +kernel
theorem dL_law_692 : decode cL_law 692 = .ok (.aload_n 0, 1) := by decide +kernel
theorem dL_law_693 : decode cL_law 693 = .ok (.iload_n 3, 1) := by decide +kernel
theorem dL_law_694 : decode cL_law 694 = .ok (.iconst 2, 1) := by decide +kernel
theorem dL_law_695 : decode cL_law 695 = .ok (.iadd, 1) := by decide +kernel
theorem dL_law_696 : decode cL_law 696 = .ok (.iaload, 1) := by decide +kernel
theorem dL_law_697 : decode cL_law 697 = .ok (.invokevirtual 91, 3) := by decide +kernel
theorem dL_law_700 : decode cL_law 700 = .ok (.aload_n 2, 1) := by decide +kernel
theorem dL_law_701 : decode cL_law 701 = .ok (.aload_n 0, 1) := by decide +kernel
theorem dL_law_702 : decode cL_law 702 = .ok (.iload_n 3, 1) := by decide +kernel
theorem dL_law_703 : decode cL_law 703 = .ok (.iconst 1, 1) := by decide +kernel
theorem dL_law_704 : decode cL_law 704 = .ok (.iadd, 1) := by decide +kernel
theorem dL_law_705 : decode cL_law 705 = .ok (.iaload, 1) := by decide +kernel
theorem dL_law_706 : decode cL_law 706 = .ok (.aload_n 0, 1) := by decide +kernel
theorem dL_law_707 : decode cL_law 707 = .ok (.iload_n 3, 1) := by decide +kernel
theorem dL_law_708 : decode cL_law 708 = .ok (.iconst 2, 1) := by decide +kernel
theorem dL_law_709 : decode cL_law 709 = .ok (.iadd, 1) := by decide +kernel
theorem dL_law_710 : decode cL_law 710 = .ok (.iaload, 1) := by decide +kernel
theorem dL_law_711 : decode cL_law 711 = .ok (.invokevirtual 94, 3) := by decide +kernel
theorem dL_law_714 : decode cL_law 714 = .ok (.if_icmp .eq 160, 3) := by decide +kernel
theorem dL_law_717 : decode cL_law 717 = .ok (.iconst 0, 1) := by decide +kernel
theorem dL_law_718 : decode cL_law 718 = .ok (.ireturn, 1) := by decide +kernel
theorem dL_law_719 : decode cL_law 719 = .ok (.aload_n 1, 1) := by decide +kernel
theorem dL_law_720 : decode cL_law 720 = .ok (.invokevirtual 95, 3) := by decide +kernel
theorem dL_law_723 : decode cL_law 723 = .ok (.aload_n 2, 1) := by decide +kernel
theorem dL_law_724 : decode cL_law 724 = .ok (.invokevirtual 98, 3) := by decide +kernel
theorem dL_law_727 : decode cL_law 727 = .ok (.if_icmp .eq 147, 3) := by decide +kernel
theorem dL_law_730 : decode cL_law 730 = .ok (.iconst 0, 1) := by decide +kernel
theorem dL_law_731 : decode cL_law 731 = .ok (.ireturn, 1) := by decide +kernel
theorem dL_law_732 : decode cL_law 732 = .ok (.aload_n 1, 1) := by decide +kernel
theorem dL_law_733 : decode cL_law 733 = .ok (.aload_n 0, 1) := by decide +kernel
theorem dL_law_734 : decode cL_law 734 = .ok (.iload_n 3, 1) := by decide +kernel
theorem dL_law_735 : decode cL_law 735 = .ok (.iconst 1, 1) := by decide +kernel
theorem dL_law_736 : decode cL_law 736 = .ok (.iadd, 1) := by decide +kernel
theorem dL_law_737 : decode cL_law 737 = .ok (.iaload, 1) := by decide +kernel
theorem dL_law_738 : decode cL_law 738 = .ok (.aload_n 0, 1) := by decide +kernel
theorem dL_law_739 : decode cL_law 739 = .ok (.iload_n 3, 1) := by decide +kernel
theorem dL_law_740 : decode cL_law 740 = .ok (.iconst 2, 1) := by decide +kernel
theorem dL_law_741 : decode cL_law 741 = .ok (.iadd, 1) := by decide +kernel
theorem dL_law_742 : decode cL_law 742 = .ok (.iaload, 1) := by decide +kernel
theorem dL_law_743 : decode cL_law 743 = .ok (.invokevirtual 99, 3) := by decide +kernel
theorem dL_law_746 : decode cL_law 746 = .ok (.aload_n 2, 1) := by decide +kernel
theorem dL_law_747 : decode cL_law 747 = .ok (.aload_n 0, 1) := by decide +kernel
theorem dL_law_748 : decode cL_law 748 = .ok (.iload_n 3, 1) := by decide +kernel
theorem dL_law_749 : decode cL_law 749 = .ok (.iconst 1, 1) := by decide +kernel
theorem dL_law_750 : decode cL_law 750 = .ok (.iadd, 1) := by decide +kernel
theorem dL_law_751 : decode cL_law 751 = .ok (.iaload, 1) := by decide +kernel
theorem dL_law_752 : decode cL_law 752 = .ok (.aload_n 0, 1) := by decide +kernel
theorem dL_law_753 : decode cL_law 753 = .ok (.iload_n 3, 1) := by decide +kernel
theorem dL_law_754 : decode cL_law 754 = .ok (.iconst 2, 1) := by decide +kernel
theorem dL_law_755 : decode cL_law 755 = .ok (.iadd, 1) := by decide +kernel
theorem dL_law_756 : decode cL_law 756 = .ok (.iaload, 1) := by decide +kernel
theorem dL_law_757 : decode cL_law 757 = .ok (.invokevirtual 102, 3) := by decide +kernel
theorem dL_law_760 : decode cL_law 760 = .ok (.if_icmp .eq 114, 3) := by decide +kernel
theorem dL_law_763 : decode cL_law 763 = .ok (.iconst 0, 1) := by decide +kernel
theorem dL_law_764 : decode cL_law 764 = .ok (.ireturn, 1) := by decide +kernel
theorem dL_law_765 : decode cL_law 765 = .ok (.aload_n 1, 1) := by decide +kernel
theorem dL_law_766 : decode cL_law 766 = .ok (.aload_n 0, 1) := by decide +kernel
theorem dL_law_767 : decode cL_law 767 = .ok (.iload_n 3, 1) := by decide +kernel
theorem dL_law_768 : decode cL_law 768 = .ok (.iconst 1, 1) := by decide +kernel
theorem dL_law_769 : decode cL_law 769 = .ok (.iadd, 1) := by decide +kernel
theorem dL_law_770 : decode cL_law 770 = .ok (.iaload, 1) := by decide +kernel
theorem dL_law_771 : decode cL_law 771 = .ok (.aload_n 0, 1) := by decide +kernel
theorem dL_law_772 : decode cL_law 772 = .ok (.iload_n 3, 1) := by decide +kernel
theorem dL_law_773 : decode cL_law 773 = .ok (.iconst 2, 1) := by decide +kernel
theorem dL_law_774 : decode cL_law 774 = .ok (.iadd, 1) := by decide +kernel
theorem dL_law_775 : decode cL_law 775 = .ok (.iaload, 1) := by decide +kernel
theorem dL_law_776 : decode cL_law 776 = .ok (.invokevirtual 103, 3) := by decide +kernel
theorem dL_law_779 : decode cL_law 779 = .ok (.aload_n 2, 1) := by decide +kernel
theorem dL_law_780 : decode cL_law 780 = .ok (.aload_n 0, 1) := by decide +kernel
theorem dL_law_781 : decode cL_law 781 = .ok (.iload_n 3, 1) := by decide +kernel
theorem dL_law_782 : decode cL_law 782 = .ok (.iconst 1, 1) := by decide +kernel
theorem dL_law_783 : decode cL_law 783 = .ok (.iadd, 1) := by decide +kernel
theorem dL_law_784 : decode cL_law 784 = .ok (.iaload, 1) := by decide +kernel
theorem dL_law_785 : decode cL_law 785 = .ok (.aload_n 0, 1) := by decide +kernel
theorem dL_law_786 : decode cL_law 786 = .ok (.iload_n 3, 1) := by decide +kernel
theorem dL_law_787 : decode cL_law 787 = .ok (.iconst 2, 1) := by decide +kernel
theorem dL_law_788 : decode cL_law 788 = .ok (.iadd, 1) := by decide +kernel
theorem dL_law_789 : decode cL_law 789 = .ok (.iaload, 1) := by decide +kernel
theorem dL_law_790 : decode cL_law 790 = .ok (.invokevirtual 106, 3) := by decide +kernel
theorem dL_law_793 : decode cL_law 793 = .ok (.if_icmp .eq 81, 3) := by decide +kernel
theorem dL_law_796 : decode cL_law 796 = .ok (.iconst 0, 1) := by decide +kernel
theorem dL_law_797 : decode cL_law 797 = .ok (.ireturn, 1) := by decide +kernel
theorem dL_law_798 : decode cL_law 798 = .ok (.aload_n 1, 1) := by decide +kernel
theorem dL_law_799 : decode cL_law 799 = .ok (.aload_n 0, 1) := by decide +kernel
theorem dL_law_800 : decode cL_law 800 = .ok (.iload_n 3, 1) := by decide +kernel
theorem dL_law_801 : decode cL_law 801 = .ok (.iconst 1, 1) := by decide +kernel
theorem dL_law_802 : decode cL_law 802 = .ok (.iadd, 1) := by decide +kernel
theorem dL_law_803 : decode cL_law 803 = .ok (.iaload, 1) := by decide +kernel
theorem dL_law_804 : decode cL_law 804 = .ok (.invokevirtual 107, 3) := by decide +kernel
theorem dL_law_807 : decode cL_law 807 = .ok (.aload_n 2, 1) := by decide +kernel
theorem dL_law_808 : decode cL_law 808 = .ok (.aload_n 0, 1) := by decide +kernel
theorem dL_law_809 : decode cL_law 809 = .ok (.iload_n 3, 1) := by decide +kernel
theorem dL_law_810 : decode cL_law 810 = .ok (.iconst 1, 1) := by decide +kernel
theorem dL_law_811 : decode cL_law 811 = .ok (.iadd, 1) := by decide +kernel
theorem dL_law_812 : decode cL_law 812 = .ok (.iaload, 1) := by decide +kernel
theorem dL_law_813 : decode cL_law 813 = .ok (.invokevirtual 110, 3) := by decide +kernel
theorem dL_law_816 : decode cL_law 816 = .ok (.if_icmp .eq 58, 3) := by decide +kernel
theorem dL_law_819 : decode cL_law 819 = .ok (.iconst 0, 1) := by decide +kernel
theorem dL_law_820 : decode cL_law 820 = .ok (.ireturn, 1) := by decide +kernel
theorem dL_law_821 : decode cL_law 821 = .ok (.aload_n 1, 1) := by decide +kernel
theorem dL_law_822 : decode cL_law 822 = .ok (.invokevirtual 111, 3) := by decide +kernel
theorem dL_law_825 : decode cL_law 825 = .ok (.aload_n 2, 1) := by decide +kernel
theorem dL_law_826 : decode cL_law 826 = .ok (.invokevirtual 114, 3) := by decide +kernel
theorem dL_law_829 : decode cL_law 829 = .ok (.if_icmp .eq 45, 3) := by decide +kernel
theorem dL_law_832 : decode cL_law 832 = .ok (.iconst 0, 1) := by decide +kernel
theorem dL_law_833 : decode cL_law 833 = .ok (.ireturn, 1) := by decide +kernel
theorem dL_law_834 : decode cL_law 834 = .ok (.aload_n 1, 1) := by decide +kernel
theorem dL_law_835 : decode cL_law 835 = .ok (.invokevirtual 115, 3) := by decide +kernel
theorem dL_law_838 : decode cL_law 838 = .ok (.aload_n 2, 1) := by decide +kernel
theorem dL_law_839 : decode cL_law 839 = .ok (.invokevirtual 118, 3) := by decide +kernel
theorem dL_law_842 : decode cL_law 842 = .ok (.if_icmp .eq 32, 3) := by decide +kernel
theorem dL_law_845 : decode cL_law 845 = .ok (.iconst 0, 1) := by decide +kernel
theorem dL_law_846 : decode cL_law 846 = .ok (.ireturn, 1) := by decide +kernel
theorem dL_law_847 : decode cL_law 847 = .ok (.aload_n 1, 1) := by decide +kernel
theorem dL_law_848 : decode cL_law 848 = .ok (.invokevirtual 119, 3) := by decide +kernel
theorem dL_law_851 : decode cL_law 851 = .ok (.aload_n 2, 1) := by decide +kernel
theorem dL_law_852 : decode cL_law 852 = .ok (.invokevirtual 122, 3) := by decide +kernel
theorem dL_law_855 : decode cL_law 855 = .ok (.if_icmp .eq 19, 3) := by decide +kernel
theorem dL_law_858 : decode cL_law 858 = .ok (.iconst 0, 1) := by decide +kernel
theorem dL_law_859 : decode cL_law 859 = .ok (.ireturn, 1) := by decide +kernel
theorem dL_law_860 : decode cL_law 860 = .ok (.aload_n 1, 1) := by decide +kernel
theorem dL_law_861 : decode cL_law 861 = .ok (.invokevirtual 123, 3) := by decide +kernel
theorem dL_law_864 : decode cL_law 864 = .ok (.aload_n 2, 1) := by decide +kernel
theorem dL_law_865 : decode cL_law 865 = .ok (.invokevirtual 127, 3) := by decide +kernel
theorem dL_law_868 : decode cL_law 868 = .ok (.lcmp, 1) := by decide +kernel
theorem dL_law_869 : decode cL_law 869 = .ok (.ifCond .eq 5, 3) := by decide +kernel
theorem dL_law_872 : decode cL_law 872 = .ok (.iconst 0, 1) := by decide +kernel
theorem dL_law_873 : decode cL_law 873 = .ok (.ireturn, 1) := by decide +kernel
theorem dL_law_874 : decode cL_law 874 = .ok (.iinc 3 6, 3) := by decide +kernel
theorem dL_law_877 : decode cL_law 877 = .ok (.goto (-859), 3) := by decide +kernel
theorem dL_law_880 : decode cL_law 880 = .ok (.iconst 1, 1) := by decide +kernel
theorem dL_law_881 : decode cL_law 881 = .ok (.ireturn, 1) := by decide +kernel
end
section
def gwl : List Cond := lw_tbl.filter goodWord
theorem gw_in {w : Cond} (h : w ∈ lw_tbl) (hg : goodWord w = true) : w ∈ gwl := List.mem_filter.mpr ⟨h, hg⟩
theorem gw_good {c c' : Cond} (h : c ∈ lw_tbl) (hg : goodWord c = true) : GoodIn (c' :: gwl) (c :: gwl) := by
  intro w hw
  rcases List.mem_cons.mp hw with e | hw
  · rw [e]; exact ⟨List.mem_cons_of_mem _ (gw_in h hg), good_of_word hg⟩
  · exact ⟨List.mem_cons_of_mem _ hw, good_of_word (List.mem_filter.mp hw).2⟩
def isNest : Cond → Bool
  | .methodLinkNest _ _ _ _ => true
  | _ => false
theorem mem_of_pos {big ws : List Cond} (ps : List Nat) (hp : ws = ps.filterMap (fun i => big[i]?)) : ∀ w ∈ ws, w ∈ big := by
  intro w hw
  rw [hp] at hw
  obtain ⟨i, -, hi⟩ := List.mem_filterMap.mp hw
  exact List.mem_of_getElem? hi
theorem tb_0 : Cond.selects RX2 yX2_stateAt yX2_stateAt ∈ lw_tbl := List.mem_of_getElem? (i := 0) (by decide +kernel)
theorem tb_1 : Cond.selects RX5 yX5_indexOf yX5_indexOf ∈ lw_tbl := List.mem_of_getElem? (i := 1) (by decide +kernel)
theorem tb_2 : Cond.selects RX3 yX3_arrive yX3_arrive ∈ lw_tbl := List.mem_of_getElem? (i := 2) (by decide +kernel)
theorem tb_3 : Cond.selects RX3 yX3_tryRoutes yX3_tryRoutes ∈ lw_tbl := List.mem_of_getElem? (i := 3) (by decide +kernel)
theorem tb_4 : Cond.selects RX6 yX6_isBefore yX6_isBefore ∈ lw_tbl := List.mem_of_getElem? (i := 4) (by decide +kernel)
theorem tb_5 : Cond.selects RX3 yX3_tryRoute yX3_tryRoute ∈ lw_tbl := List.mem_of_getElem? (i := 5) (by decide +kernel)
theorem tb_6 : Cond.selects RX4 yX4_settleStep yX4_settleStep ∈ lw_tbl := List.mem_of_getElem? (i := 6) (by decide +kernel)
theorem tb_7 : Cond.selects RX4 yX4_addDebt yX4_addDebt ∈ lw_tbl := List.mem_of_getElem? (i := 7) (by decide +kernel)
theorem tb_8 : Cond.selects RX1 yX1_fill yX1_fill ∈ lw_tbl := List.mem_of_getElem? (i := 8) (by decide +kernel)
theorem tb_9 : Cond.selects RX1 yX1_fillSwitch yX1_fillSwitch ∈ lw_tbl := List.mem_of_getElem? (i := 9) (by decide +kernel)
theorem tb_10 : Cond.selects RX1 yX1_arrive yX1_arrive ∈ lw_tbl := List.mem_of_getElem? (i := 10) (by decide +kernel)
theorem tb_11 : Cond.selects RX1 yX1_costBetween yX1_costBetween ∈ lw_tbl := List.mem_of_getElem? (i := 11) (by decide +kernel)
theorem tb_12 : Cond.selects RX7 yX7_readCommand yX7_readCommand ∈ lw_tbl := List.mem_of_getElem? (i := 12) (by decide +kernel)
theorem tb_13 : Cond.selects RX7 yX7_sign yX7_sign ∈ lw_tbl := List.mem_of_getElem? (i := 13) (by decide +kernel)
theorem tb_14 : Cond.selects RX7 yX7_skip yX7_skip ∈ lw_tbl := List.mem_of_getElem? (i := 14) (by decide +kernel)
theorem tb_15 : Cond.selects RX7 yX7_readRoute yX7_readRoute ∈ lw_tbl := List.mem_of_getElem? (i := 15) (by decide +kernel)
theorem tb_16 : Cond.selects RX7 yX7_readSwitch yX7_readSwitch ∈ lw_tbl := List.mem_of_getElem? (i := 16) (by decide +kernel)
theorem tb_17 : Cond.selects RX7 yX7_readDigit yX7_readDigit ∈ lw_tbl := List.mem_of_getElem? (i := 17) (by decide +kernel)
theorem tb_18 : Cond.selects RX7 yX7_isDigit yX7_isDigit ∈ lw_tbl := List.mem_of_getElem? (i := 18) (by decide +kernel)
theorem tb_19 : Cond.selects RX7 yX7_readDigits yX7_readDigits ∈ lw_tbl := List.mem_of_getElem? (i := 19) (by decide +kernel)
theorem tb_20 : Cond.selects RX7 yX7_readPort yX7_readPort ∈ lw_tbl := List.mem_of_getElem? (i := 20) (by decide +kernel)
theorem tb_21 : Cond.selects RX7 yX7_putRoute yX7_putRoute ∈ lw_tbl := List.mem_of_getElem? (i := 21) (by decide +kernel)
theorem tb_22 : Cond.selects RX7 yX7_putPort yX7_putPort ∈ lw_tbl := List.mem_of_getElem? (i := 22) (by decide +kernel)
theorem tb_23 : Cond.selects RX7 yX7_letLookUp yX7_letLookUp ∈ lw_tbl := List.mem_of_getElem? (i := 23) (by decide +kernel)
theorem tb_24 : Cond.selects RX10 yX10_keeps yX10_keeps ∈ lw_tbl := List.mem_of_getElem? (i := 24) (by decide +kernel)
theorem tb_25 : Cond.selects RX10 yX10_isSwitch yX10_isSwitch ∈ lw_tbl := List.mem_of_getElem? (i := 25) (by decide +kernel)
theorem tb_26 : Cond.selects RX10 yX10_sets yX10_sets ∈ lw_tbl := List.mem_of_getElem? (i := 26) (by decide +kernel)
theorem tb_27 : Cond.selects RX10 yX10_isRoute yX10_isRoute ∈ lw_tbl := List.mem_of_getElem? (i := 27) (by decide +kernel)
theorem tb_28 : Cond.selects RX10 yX10_routes yX10_routes ∈ lw_tbl := List.mem_of_getElem? (i := 28) (by decide +kernel)
theorem tb_29 : Cond.selects RX10 yX10_portOf yX10_portOf ∈ lw_tbl := List.mem_of_getElem? (i := 29) (by decide +kernel)
theorem tb_30 : Cond.selects RX10 yX10_ports yX10_ports ∈ lw_tbl := List.mem_of_getElem? (i := 30) (by decide +kernel)
theorem tb_31 : Cond.selects RX10 yX10_places yX10_places ∈ lw_tbl := List.mem_of_getElem? (i := 31) (by decide +kernel)
theorem tb_32 : Cond.selects RX10 yX10_arrives yX10_arrives ∈ lw_tbl := List.mem_of_getElem? (i := 32) (by decide +kernel)
theorem tb_33 : Cond.selects RX10 yX10_dials yX10_dials ∈ lw_tbl := List.mem_of_getElem? (i := 33) (by decide +kernel)
theorem tb_34 : Cond.selects RX10 yX10_spells yX10_spells ∈ lw_tbl := List.mem_of_getElem? (i := 34) (by decide +kernel)
theorem tb_35 : Cond.selects RX10 yX10_gathers yX10_gathers ∈ lw_tbl := List.mem_of_getElem? (i := 35) (by decide +kernel)
theorem tb_36 : Cond.selects RX10 yX10_of yX10_of ∈ lw_tbl := List.mem_of_getElem? (i := 36) (by decide +kernel)
theorem tb_37 : Cond.selects RX10 yX10_begins yX10_begins ∈ lw_tbl := List.mem_of_getElem? (i := 37) (by decide +kernel)
theorem tb_38 : Cond.selects RX10 yX10_bandOf yX10_bandOf ∈ lw_tbl := List.mem_of_getElem? (i := 38) (by decide +kernel)
theorem tb_39 : Cond.selects RX10 yX10_isBusy yX10_isBusy ∈ lw_tbl := List.mem_of_getElem? (i := 39) (by decide +kernel)
theorem tb_40 : Cond.selects RX10 yX10_tries yX10_tries ∈ lw_tbl := List.mem_of_getElem? (i := 40) (by decide +kernel)
theorem tb_41 : Cond.selects RX10 yX10_atHand yX10_atHand ∈ lw_tbl := List.mem_of_getElem? (i := 41) (by decide +kernel)
theorem tb_42 : Cond.selects RX10 yX10_serves yX10_serves ∈ lw_tbl := List.mem_of_getElem? (i := 42) (by decide +kernel)
theorem tb_43 : Cond.selects RX10 yX10_leaves yX10_leaves ∈ lw_tbl := List.mem_of_getElem? (i := 43) (by decide +kernel)
theorem tb_44 : Cond.selects RX10 yX10_settles yX10_settles ∈ lw_tbl := List.mem_of_getElem? (i := 44) (by decide +kernel)
theorem tb_45 : Cond.selects RX10 yX10_connects yX10_connects ∈ lw_tbl := List.mem_of_getElem? (i := 45) (by decide +kernel)
theorem tb_46 : Cond.selects RX10 yX10_isCall yX10_isCall ∈ lw_tbl := List.mem_of_getElem? (i := 46) (by decide +kernel)
theorem tb_47 : Cond.selects RX10 yX10_costOf yX10_costOf ∈ lw_tbl := List.mem_of_getElem? (i := 47) (by decide +kernel)
theorem tb_48 : Cond.selects RX10 yX10_costsTo yX10_costsTo ∈ lw_tbl := List.mem_of_getElem? (i := 48) (by decide +kernel)
theorem tb_49 : Cond.selects RX10 yX10_readsText yX10_readsText ∈ lw_tbl := List.mem_of_getElem? (i := 49) (by decide +kernel)
theorem tb_50 : Cond.selects RX10 yX10_readsCommand yX10_readsCommand ∈ lw_tbl := List.mem_of_getElem? (i := 50) (by decide +kernel)
theorem tb_51 : Cond.selects RX10 yX10_sign yX10_sign ∈ lw_tbl := List.mem_of_getElem? (i := 51) (by decide +kernel)
theorem tb_52 : Cond.selects RX10 yX10_reads yX10_reads ∈ lw_tbl := List.mem_of_getElem? (i := 52) (by decide +kernel)
theorem tb_53 : Cond.selects RX10 yX10_takes yX10_takes ∈ lw_tbl := List.mem_of_getElem? (i := 53) (by decide +kernel)
theorem tb_54 : Cond.selects RX10 yX10_does yX10_does ∈ lw_tbl := List.mem_of_getElem? (i := 54) (by decide +kernel)
theorem tb_55 : Cond.selects RX10 yX10_num yX10_num ∈ lw_tbl := List.mem_of_getElem? (i := 55) (by decide +kernel)
theorem tb_56 : Cond.initialized RL ∈ lw_tbl := List.mem_of_getElem? (i := 56) (by decide +kernel)
theorem tb_57 : Cond.initialized RX9 ∈ lw_tbl := List.mem_of_getElem? (i := 57) (by decide +kernel)
theorem tb_58 : Cond.initialized RX4 ∈ lw_tbl := List.mem_of_getElem? (i := 58) (by decide +kernel)
theorem tb_59 : Cond.initialized RX6 ∈ lw_tbl := List.mem_of_getElem? (i := 59) (by decide +kernel)
theorem tb_60 : Cond.initialized RX5 ∈ lw_tbl := List.mem_of_getElem? (i := 60) (by decide +kernel)
theorem tb_61 : Cond.initialized RX0 ∈ lw_tbl := List.mem_of_getElem? (i := 61) (by decide +kernel)
theorem tb_62 : Cond.initialized RX2 ∈ lw_tbl := List.mem_of_getElem? (i := 62) (by decide +kernel)
theorem tb_63 : Cond.initialized RX7 ∈ lw_tbl := List.mem_of_getElem? (i := 63) (by decide +kernel)
theorem tb_64 : Cond.initialized RX3 ∈ lw_tbl := List.mem_of_getElem? (i := 64) (by decide +kernel)
theorem tb_65 : Cond.initialized RX8 ∈ lw_tbl := List.mem_of_getElem? (i := 65) (by decide +kernel)
theorem tb_66 : Cond.initialized RX1 ∈ lw_tbl := List.mem_of_getElem? (i := 66) (by decide +kernel)
theorem tb_67 : Cond.initialized RX10 ∈ lw_tbl := List.mem_of_getElem? (i := 67) (by decide +kernel)
theorem tb_68 : Cond.initialized RJ9 ∈ lw_tbl := List.mem_of_getElem? (i := 68) (by decide +kernel)
theorem tb_69 : Cond.initialized RJ10 ∈ lw_tbl := List.mem_of_getElem? (i := 69) (by decide +kernel)
theorem tb_70 : Cond.initialized RJ6 ∈ lw_tbl := List.mem_of_getElem? (i := 70) (by decide +kernel)
theorem tb_71 : Cond.classLink RL 7 RX9 ∈ lw_tbl := List.mem_of_getElem? (i := 71) (by decide +kernel)
theorem tb_72 : Cond.instantiable RX9 6 ∈ lw_tbl := List.mem_of_getElem? (i := 72) (by decide +kernel)
theorem tb_73 : Cond.methodLink RL 9 yX9_init ∈ lw_tbl := List.mem_of_getElem? (i := 73) (by decide +kernel)
theorem tb_74 : Cond.instanceMethod yX9_init ∈ lw_tbl := List.mem_of_getElem? (i := 74) (by decide +kernel)
theorem tb_75 : Cond.code yX9_init cX9_init 1 none ∈ lw_tbl := List.mem_of_getElem? (i := 75) (by decide +kernel)
theorem tb_76 : Cond.methodLink RX9 1 objectInit ∈ lw_tbl := List.mem_of_getElem? (i := 76) (by decide +kernel)
theorem tb_77 : Cond.instanceMethod objectInit ∈ lw_tbl := List.mem_of_getElem? (i := 77) (by decide +kernel)
theorem tb_79 : Cond.classLink RX9 7 RX4 ∈ lw_tbl := List.mem_of_getElem? (i := 79) (by decide +kernel)
theorem tb_80 : Cond.instantiable RX4 9 ∈ lw_tbl := List.mem_of_getElem? (i := 80) (by decide +kernel)
theorem tb_81 : Cond.methodLinkNest RX9 9 yX4_init RX9 ∈ lw_tbl := List.mem_of_getElem? (i := 81) (by decide +kernel)
theorem tb_82 : Cond.instanceMethod yX4_init ∈ lw_tbl := List.mem_of_getElem? (i := 82) (by decide +kernel)
theorem tb_83 : Cond.code yX4_init cX4_init 1 none ∈ lw_tbl := List.mem_of_getElem? (i := 83) (by decide +kernel)
theorem tb_84 : Cond.methodLink RX4 3 objectInit ∈ lw_tbl := List.mem_of_getElem? (i := 84) (by decide +kernel)
theorem tb_85 : Cond.classLink RX4 18 RX6 ∈ lw_tbl := List.mem_of_getElem? (i := 85) (by decide +kernel)
theorem tb_86 : Cond.instantiable RX6 7 ∈ lw_tbl := List.mem_of_getElem? (i := 86) (by decide +kernel)
theorem tb_87 : Cond.methodLinkNest RX4 20 yX6_init RX9 ∈ lw_tbl := List.mem_of_getElem? (i := 87) (by decide +kernel)
theorem tb_88 : Cond.instanceMethod yX6_init ∈ lw_tbl := List.mem_of_getElem? (i := 88) (by decide +kernel)
theorem tb_89 : Cond.code yX6_init cX6_init 1 none ∈ lw_tbl := List.mem_of_getElem? (i := 89) (by decide +kernel)
theorem tb_90 : Cond.methodLink RX6 3 objectInit ∈ lw_tbl := List.mem_of_getElem? (i := 90) (by decide +kernel)
theorem tb_91 : Cond.fieldLink RX6 9 "CallRouter$Routes" "owners" "[I" ∈ lw_tbl := List.mem_of_getElem? (i := 91) (by decide +kernel)
theorem tb_92 : Cond.fieldLink RX6 15 "CallRouter$Routes" "prefixes" "[I" ∈ lw_tbl := List.mem_of_getElem? (i := 92) (by decide +kernel)
theorem tb_93 : Cond.fieldLink RX6 18 "CallRouter$Routes" "nexts" "[I" ∈ lw_tbl := List.mem_of_getElem? (i := 93) (by decide +kernel)
theorem tb_94 : Cond.fieldLink RX6 21 "CallRouter$Routes" "costs" "[I" ∈ lw_tbl := List.mem_of_getElem? (i := 94) (by decide +kernel)
theorem tb_95 : Cond.fieldLink RX6 24 "CallRouter$Routes" "lineCounts" "[I" ∈ lw_tbl := List.mem_of_getElem? (i := 95) (by decide +kernel)
theorem tb_96 : Cond.fieldLink RX6 27 "CallRouter$Routes" "occupied" "[I" ∈ lw_tbl := List.mem_of_getElem? (i := 96) (by decide +kernel)
theorem tb_97 : Cond.fieldLink RX6 30 "CallRouter$Routes" "count" "I" ∈ lw_tbl := List.mem_of_getElem? (i := 97) (by decide +kernel)
theorem tb_113 : Cond.arrayClass .int ∈ lw_tbl := List.mem_of_getElem? (i := 113) (by decide +kernel)
theorem tb_114 : Cond.classLink RX4 25 RX5 ∈ lw_tbl := List.mem_of_getElem? (i := 114) (by decide +kernel)
theorem tb_115 : Cond.instantiable RX5 3 ∈ lw_tbl := List.mem_of_getElem? (i := 115) (by decide +kernel)
theorem tb_116 : Cond.methodLinkNest RX4 27 yX5_init RX9 ∈ lw_tbl := List.mem_of_getElem? (i := 116) (by decide +kernel)
theorem tb_117 : Cond.instanceMethod yX5_init ∈ lw_tbl := List.mem_of_getElem? (i := 117) (by decide +kernel)
theorem tb_118 : Cond.code yX5_init cX5_init 1 none ∈ lw_tbl := List.mem_of_getElem? (i := 118) (by decide +kernel)
theorem tb_119 : Cond.methodLink RX5 3 objectInit ∈ lw_tbl := List.mem_of_getElem? (i := 119) (by decide +kernel)
theorem tb_120 : Cond.fieldLink RX5 9 "CallRouter$Ports" "numbers" "[I" ∈ lw_tbl := List.mem_of_getElem? (i := 120) (by decide +kernel)
theorem tb_121 : Cond.fieldLink RX5 15 "CallRouter$Ports" "targets" "[I" ∈ lw_tbl := List.mem_of_getElem? (i := 121) (by decide +kernel)
theorem tb_122 : Cond.fieldLink RX5 18 "CallRouter$Ports" "count" "I" ∈ lw_tbl := List.mem_of_getElem? (i := 122) (by decide +kernel)
theorem tb_130 : Cond.classLink RX4 32 RX0 ∈ lw_tbl := List.mem_of_getElem? (i := 130) (by decide +kernel)
theorem tb_131 : Cond.instantiable RX0 5 ∈ lw_tbl := List.mem_of_getElem? (i := 131) (by decide +kernel)
theorem tb_132 : Cond.methodLinkNest RX4 34 yX0_init RX9 ∈ lw_tbl := List.mem_of_getElem? (i := 132) (by decide +kernel)
theorem tb_133 : Cond.instanceMethod yX0_init ∈ lw_tbl := List.mem_of_getElem? (i := 133) (by decide +kernel)
theorem tb_134 : Cond.code yX0_init cX0_init 1 none ∈ lw_tbl := List.mem_of_getElem? (i := 134) (by decide +kernel)
theorem tb_135 : Cond.methodLink RX0 3 objectInit ∈ lw_tbl := List.mem_of_getElem? (i := 135) (by decide +kernel)
theorem tb_136 : Cond.fieldLink RX0 9 "CallRouter$Calls" "numbers" "[I" ∈ lw_tbl := List.mem_of_getElem? (i := 136) (by decide +kernel)
theorem tb_137 : Cond.fieldLink RX0 15 "CallRouter$Calls" "starts" "[I" ∈ lw_tbl := List.mem_of_getElem? (i := 137) (by decide +kernel)
theorem tb_138 : Cond.fieldLink RX0 18 "CallRouter$Calls" "lengths" "[I" ∈ lw_tbl := List.mem_of_getElem? (i := 138) (by decide +kernel)
theorem tb_139 : Cond.fieldLink RX0 21 "CallRouter$Calls" "steps" "[I" ∈ lw_tbl := List.mem_of_getElem? (i := 139) (by decide +kernel)
theorem tb_140 : Cond.fieldLink RX0 24 "CallRouter$Calls" "count" "I" ∈ lw_tbl := List.mem_of_getElem? (i := 140) (by decide +kernel)
theorem tb_152 : Cond.fieldLink RX4 9 "CallRouter$Network" "codeSets" "[I" ∈ lw_tbl := List.mem_of_getElem? (i := 152) (by decide +kernel)
theorem tb_153 : Cond.fieldLink RX4 15 "CallRouter$Network" "debts" "[I" ∈ lw_tbl := List.mem_of_getElem? (i := 153) (by decide +kernel)
theorem tb_154 : Cond.fieldLink RX4 21 "CallRouter$Network" "routeRows" "LCallRouter$Routes;" ∈ lw_tbl := List.mem_of_getElem? (i := 154) (by decide +kernel)
theorem tb_155 : Cond.fieldLink RX4 28 "CallRouter$Network" "portRows" "LCallRouter$Ports;" ∈ lw_tbl := List.mem_of_getElem? (i := 155) (by decide +kernel)
theorem tb_156 : Cond.fieldLink RX4 35 "CallRouter$Network" "callRows" "LCallRouter$Calls;" ∈ lw_tbl := List.mem_of_getElem? (i := 156) (by decide +kernel)
theorem tb_157 : Cond.fieldLink RX4 39 "CallRouter$Network" "switches" "I" ∈ lw_tbl := List.mem_of_getElem? (i := 157) (by decide +kernel)
theorem tb_158 : Cond.fieldLink RX4 43 "CallRouter$Network" "lookups" "I" ∈ lw_tbl := List.mem_of_getElem? (i := 158) (by decide +kernel)
theorem tb_159 : Cond.fieldLink RX4 46 "CallRouter$Network" "hops" "I" ∈ lw_tbl := List.mem_of_getElem? (i := 159) (by decide +kernel)
theorem tb_160 : Cond.fieldLink RX4 49 "CallRouter$Network" "clock" "I" ∈ lw_tbl := List.mem_of_getElem? (i := 160) (by decide +kernel)
theorem tb_180 : Cond.classLink RX9 19 RX2 ∈ lw_tbl := List.mem_of_getElem? (i := 180) (by decide +kernel)
theorem tb_181 : Cond.instantiable RX2 3 ∈ lw_tbl := List.mem_of_getElem? (i := 181) (by decide +kernel)
theorem tb_182 : Cond.methodLink RX9 21 yX2_init ∈ lw_tbl := List.mem_of_getElem? (i := 182) (by decide +kernel)
theorem tb_183 : Cond.instanceMethod yX2_init ∈ lw_tbl := List.mem_of_getElem? (i := 183) (by decide +kernel)
theorem tb_184 : Cond.code yX2_init cX2_init 2 none ∈ lw_tbl := List.mem_of_getElem? (i := 184) (by decide +kernel)
theorem tb_185 : Cond.methodLink RX2 3 objectInit ∈ lw_tbl := List.mem_of_getElem? (i := 185) (by decide +kernel)
theorem tb_186 : Cond.classLink RX2 9 RX4 ∈ lw_tbl := List.mem_of_getElem? (i := 186) (by decide +kernel)
theorem tb_188 : Cond.methodLinkNest RX2 24 yX4_init RX9 ∈ lw_tbl := List.mem_of_getElem? (i := 188) (by decide +kernel)
theorem tb_189 : Cond.fieldLink RX2 11 "CallRouter$History" "states" "[LCallRouter$Network;" ∈ lw_tbl := List.mem_of_getElem? (i := 189) (by decide +kernel)
theorem tb_190 : Cond.fieldLink RX2 17 "CallRouter$History" "first" "I" ∈ lw_tbl := List.mem_of_getElem? (i := 190) (by decide +kernel)
theorem tb_191 : Cond.fieldLink RX2 21 "CallRouter$History" "count" "I" ∈ lw_tbl := List.mem_of_getElem? (i := 191) (by decide +kernel)
theorem tb_199 : Cond.classLink RX9 26 RX7 ∈ lw_tbl := List.mem_of_getElem? (i := 199) (by decide +kernel)
theorem tb_200 : Cond.instantiable RX7 10 ∈ lw_tbl := List.mem_of_getElem? (i := 200) (by decide +kernel)
theorem tb_201 : Cond.methodLinkNest RX9 28 yX7_init RX9 ∈ lw_tbl := List.mem_of_getElem? (i := 201) (by decide +kernel)
theorem tb_202 : Cond.instanceMethod yX7_init ∈ lw_tbl := List.mem_of_getElem? (i := 202) (by decide +kernel)
theorem tb_203 : Cond.code yX7_init cX7_init 1 none ∈ lw_tbl := List.mem_of_getElem? (i := 203) (by decide +kernel)
theorem tb_204 : Cond.methodLink RX7 3 objectInit ∈ lw_tbl := List.mem_of_getElem? (i := 204) (by decide +kernel)
theorem tb_205 : Cond.fieldLink RX7 9 "CallRouter$Text" "signs" "[C" ∈ lw_tbl := List.mem_of_getElem? (i := 205) (by decide +kernel)
theorem tb_206 : Cond.fieldLink RX7 15 "CallRouter$Text" "kinds" "[C" ∈ lw_tbl := List.mem_of_getElem? (i := 206) (by decide +kernel)
theorem tb_207 : Cond.fieldLink RX7 18 "CallRouter$Text" "switches" "[I" ∈ lw_tbl := List.mem_of_getElem? (i := 207) (by decide +kernel)
theorem tb_208 : Cond.fieldLink RX7 22 "CallRouter$Text" "others" "[I" ∈ lw_tbl := List.mem_of_getElem? (i := 208) (by decide +kernel)
theorem tb_209 : Cond.fieldLink RX7 25 "CallRouter$Text" "numbers" "[I" ∈ lw_tbl := List.mem_of_getElem? (i := 209) (by decide +kernel)
theorem tb_210 : Cond.fieldLink RX7 28 "CallRouter$Text" "costs" "[I" ∈ lw_tbl := List.mem_of_getElem? (i := 210) (by decide +kernel)
theorem tb_211 : Cond.fieldLink RX7 31 "CallRouter$Text" "lineCounts" "[I" ∈ lw_tbl := List.mem_of_getElem? (i := 211) (by decide +kernel)
theorem tb_212 : Cond.fieldLink RX7 34 "CallRouter$Text" "length" "I" ∈ lw_tbl := List.mem_of_getElem? (i := 212) (by decide +kernel)
theorem tb_213 : Cond.fieldLink RX7 38 "CallRouter$Text" "commands" "I" ∈ lw_tbl := List.mem_of_getElem? (i := 213) (by decide +kernel)
theorem tb_214 : Cond.fieldLink RX7 41 "CallRouter$Text" "at" "I" ∈ lw_tbl := List.mem_of_getElem? (i := 214) (by decide +kernel)
theorem tb_236 : Cond.arrayClass .char ∈ lw_tbl := List.mem_of_getElem? (i := 236) (by decide +kernel)
theorem tb_237 : Cond.classLink RX9 33 RX3 ∈ lw_tbl := List.mem_of_getElem? (i := 237) (by decide +kernel)
theorem tb_238 : Cond.instantiable RX3 6 ∈ lw_tbl := List.mem_of_getElem? (i := 238) (by decide +kernel)
theorem tb_239 : Cond.methodLinkNest RX9 35 yX3_init RX9 ∈ lw_tbl := List.mem_of_getElem? (i := 239) (by decide +kernel)
theorem tb_240 : Cond.instanceMethod yX3_init ∈ lw_tbl := List.mem_of_getElem? (i := 240) (by decide +kernel)
theorem tb_241 : Cond.code yX3_init cX3_init 1 none ∈ lw_tbl := List.mem_of_getElem? (i := 241) (by decide +kernel)
theorem tb_242 : Cond.methodLink RX3 3 objectInit ∈ lw_tbl := List.mem_of_getElem? (i := 242) (by decide +kernel)
theorem tb_243 : Cond.classLink RX3 9 RX8 ∈ lw_tbl := List.mem_of_getElem? (i := 243) (by decide +kernel)
theorem tb_244 : Cond.instantiable RX8 3 ∈ lw_tbl := List.mem_of_getElem? (i := 244) (by decide +kernel)
theorem tb_245 : Cond.methodLinkNest RX3 11 yX8_init RX9 ∈ lw_tbl := List.mem_of_getElem? (i := 245) (by decide +kernel)
theorem tb_246 : Cond.instanceMethod yX8_init ∈ lw_tbl := List.mem_of_getElem? (i := 246) (by decide +kernel)
theorem tb_247 : Cond.code yX8_init cX8_init 1 none ∈ lw_tbl := List.mem_of_getElem? (i := 247) (by decide +kernel)
theorem tb_248 : Cond.methodLink RX8 3 objectInit ∈ lw_tbl := List.mem_of_getElem? (i := 248) (by decide +kernel)
theorem tb_249 : Cond.fieldLink RX8 9 "CallRouter$Trace" "routes" "[I" ∈ lw_tbl := List.mem_of_getElem? (i := 249) (by decide +kernel)
theorem tb_250 : Cond.fieldLink RX8 15 "CallRouter$Trace" "codes" "[I" ∈ lw_tbl := List.mem_of_getElem? (i := 250) (by decide +kernel)
theorem tb_251 : Cond.fieldLink RX8 18 "CallRouter$Trace" "count" "I" ∈ lw_tbl := List.mem_of_getElem? (i := 251) (by decide +kernel)
theorem tb_259 : Cond.fieldLink RX3 12 "CallRouter$Journey" "trace" "LCallRouter$Trace;" ∈ lw_tbl := List.mem_of_getElem? (i := 259) (by decide +kernel)
theorem tb_260 : Cond.fieldLink RX3 18 "CallRouter$Journey" "steps" "[I" ∈ lw_tbl := List.mem_of_getElem? (i := 260) (by decide +kernel)
theorem tb_261 : Cond.fieldLink RX3 22 "CallRouter$Journey" "length" "I" ∈ lw_tbl := List.mem_of_getElem? (i := 261) (by decide +kernel)
theorem tb_262 : Cond.fieldLink RX3 26 "CallRouter$Journey" "wanted" "I" ∈ lw_tbl := List.mem_of_getElem? (i := 262) (by decide +kernel)
theorem tb_263 : Cond.fieldLink RX3 29 "CallRouter$Journey" "presentBand" "I" ∈ lw_tbl := List.mem_of_getElem? (i := 263) (by decide +kernel)
theorem tb_264 : Cond.fieldLink RX3 32 "CallRouter$Journey" "lastCode" "I" ∈ lw_tbl := List.mem_of_getElem? (i := 264) (by decide +kernel)
theorem tb_278 : Cond.classLink RX9 40 RX1 ∈ lw_tbl := List.mem_of_getElem? (i := 278) (by decide +kernel)
theorem tb_279 : Cond.instantiable RX1 4 ∈ lw_tbl := List.mem_of_getElem? (i := 279) (by decide +kernel)
theorem tb_280 : Cond.methodLinkNest RX9 42 yX1_init RX9 ∈ lw_tbl := List.mem_of_getElem? (i := 280) (by decide +kernel)
theorem tb_281 : Cond.instanceMethod yX1_init ∈ lw_tbl := List.mem_of_getElem? (i := 281) (by decide +kernel)
theorem tb_282 : Cond.code yX1_init cX1_init 1 none ∈ lw_tbl := List.mem_of_getElem? (i := 282) (by decide +kernel)
theorem tb_283 : Cond.methodLink RX1 3 objectInit ∈ lw_tbl := List.mem_of_getElem? (i := 283) (by decide +kernel)
theorem tb_284 : Cond.constant RX1 22 (1000000) ∈ lw_tbl := List.mem_of_getElem? (i := 284) (by decide +kernel)
theorem tb_285 : Cond.fieldLink RX1 9 "CallRouter$CheapestWay" "plainCosts" "[I" ∈ lw_tbl := List.mem_of_getElem? (i := 285) (by decide +kernel)
theorem tb_286 : Cond.fieldLink RX1 15 "CallRouter$CheapestWay" "markedCosts" "[I" ∈ lw_tbl := List.mem_of_getElem? (i := 286) (by decide +kernel)
theorem tb_287 : Cond.fieldLink RX1 18 "CallRouter$CheapestWay" "wanted" "I" ∈ lw_tbl := List.mem_of_getElem? (i := 287) (by decide +kernel)
theorem tb_288 : Cond.fieldLink RX1 23 "CallRouter$CheapestWay" "least" "I" ∈ lw_tbl := List.mem_of_getElem? (i := 288) (by decide +kernel)
theorem tb_298 : Cond.fieldLink RX9 10 "CallRouter" "now" "LCallRouter$Network;" ∈ lw_tbl := List.mem_of_getElem? (i := 298) (by decide +kernel)
theorem tb_299 : Cond.fieldLink RX9 16 "CallRouter" "before" "LCallRouter$Network;" ∈ lw_tbl := List.mem_of_getElem? (i := 299) (by decide +kernel)
theorem tb_300 : Cond.fieldLink RX9 22 "CallRouter" "history" "LCallRouter$History;" ∈ lw_tbl := List.mem_of_getElem? (i := 300) (by decide +kernel)
theorem tb_301 : Cond.fieldLink RX9 29 "CallRouter" "text" "LCallRouter$Text;" ∈ lw_tbl := List.mem_of_getElem? (i := 301) (by decide +kernel)
theorem tb_302 : Cond.fieldLink RX9 36 "CallRouter" "journey" "LCallRouter$Journey;" ∈ lw_tbl := List.mem_of_getElem? (i := 302) (by decide +kernel)
theorem tb_303 : Cond.fieldLink RX9 43 "CallRouter" "cheapestWay" "LCallRouter$CheapestWay;" ∈ lw_tbl := List.mem_of_getElem? (i := 303) (by decide +kernel)
theorem tb_317 : Cond.methodLink RL 13 yX9_addSwitch ∈ lw_tbl := List.mem_of_getElem? (i := 317) (by decide +kernel)
theorem tb_318 : Cond.instanceMethod yX9_addSwitch ∈ lw_tbl := List.mem_of_getElem? (i := 318) (by decide +kernel)
theorem tb_319 : Cond.selects RX9 yX9_addSwitch yX9_addSwitch ∈ lw_tbl := List.mem_of_getElem? (i := 319) (by decide +kernel)
theorem tb_320 : Cond.code yX9_addSwitch cX9_addSwitch 1 (some .int) ∈ lw_tbl := List.mem_of_getElem? (i := 320) (by decide +kernel)
theorem tb_321 : Cond.methodLink RX9 47 yX4_switchCount ∈ lw_tbl := List.mem_of_getElem? (i := 321) (by decide +kernel)
theorem tb_322 : Cond.instanceMethod yX4_switchCount ∈ lw_tbl := List.mem_of_getElem? (i := 322) (by decide +kernel)
theorem tb_323 : Cond.selects RX4 yX4_switchCount yX4_switchCount ∈ lw_tbl := List.mem_of_getElem? (i := 323) (by decide +kernel)
theorem tb_324 : Cond.code yX4_switchCount cX4_switchCount 1 (some .int) ∈ lw_tbl := List.mem_of_getElem? (i := 324) (by decide +kernel)
theorem tb_325 : Cond.methodLink RX9 51 yX2_push ∈ lw_tbl := List.mem_of_getElem? (i := 325) (by decide +kernel)
theorem tb_326 : Cond.instanceMethod yX2_push ∈ lw_tbl := List.mem_of_getElem? (i := 326) (by decide +kernel)
theorem tb_327 : Cond.selects RX2 yX2_push yX2_push ∈ lw_tbl := List.mem_of_getElem? (i := 327) (by decide +kernel)
theorem tb_328 : Cond.code yX2_push cX2_push 3 none ∈ lw_tbl := List.mem_of_getElem? (i := 328) (by decide +kernel)
theorem tb_329 : Cond.methodLink RX2 31 yX2_stateAt ∈ lw_tbl := List.mem_of_getElem? (i := 329) (by decide +kernel)
theorem tb_331 : Cond.instanceMethod yX2_stateAt ∈ lw_tbl := List.mem_of_getElem? (i := 331) (by decide +kernel)
theorem tb_332 : Cond.code yX2_stateAt cX2_stateAt 2 (some (.object "CallRouter$Network")) ∈ lw_tbl := List.mem_of_getElem? (i := 332) (by decide +kernel)
theorem tb_333 : Cond.methodLink RX2 25 yJ9_floorMod_7cf53 ∈ lw_tbl := List.mem_of_getElem? (i := 333) (by decide +kernel)
theorem tb_334 : Cond.static yJ9_floorMod_7cf53 ∈ lw_tbl := List.mem_of_getElem? (i := 334) (by decide +kernel)
theorem tb_335 : Cond.code yJ9_floorMod_7cf53 cJ9_floorMod_7cf53 3 (some .int) ∈ lw_tbl := List.mem_of_getElem? (i := 335) (by decide +kernel)
theorem tb_336 : Cond.methodLink RX2 35 yX4_copyFrom ∈ lw_tbl := List.mem_of_getElem? (i := 336) (by decide +kernel)
theorem tb_337 : Cond.instanceMethod yX4_copyFrom ∈ lw_tbl := List.mem_of_getElem? (i := 337) (by decide +kernel)
theorem tb_338 : Cond.selects RX4 yX4_copyFrom yX4_copyFrom ∈ lw_tbl := List.mem_of_getElem? (i := 338) (by decide +kernel)
theorem tb_339 : Cond.code yX4_copyFrom cX4_copyFrom 2 none ∈ lw_tbl := List.mem_of_getElem? (i := 339) (by decide +kernel)
theorem tb_340 : Cond.methodLink RX4 52 arraycopyName ∈ lw_tbl := List.mem_of_getElem? (i := 340) (by decide +kernel)
theorem tb_341 : Cond.static arraycopyName ∈ lw_tbl := List.mem_of_getElem? (i := 341) (by decide +kernel)
theorem tb_342 : Cond.native arraycopyName ∈ lw_tbl := List.mem_of_getElem? (i := 342) (by decide +kernel)
theorem tb_343 : Cond.methodLink RX4 58 yX6_copyFrom ∈ lw_tbl := List.mem_of_getElem? (i := 343) (by decide +kernel)
theorem tb_344 : Cond.instanceMethod yX6_copyFrom ∈ lw_tbl := List.mem_of_getElem? (i := 344) (by decide +kernel)
theorem tb_345 : Cond.selects RX6 yX6_copyFrom yX6_copyFrom ∈ lw_tbl := List.mem_of_getElem? (i := 345) (by decide +kernel)
theorem tb_346 : Cond.code yX6_copyFrom cX6_copyFrom 2 none ∈ lw_tbl := List.mem_of_getElem? (i := 346) (by decide +kernel)
theorem tb_347 : Cond.methodLink RX6 34 arraycopyName ∈ lw_tbl := List.mem_of_getElem? (i := 347) (by decide +kernel)
theorem tb_348 : Cond.methodLink RX4 62 yX5_copyFrom ∈ lw_tbl := List.mem_of_getElem? (i := 348) (by decide +kernel)
theorem tb_349 : Cond.instanceMethod yX5_copyFrom ∈ lw_tbl := List.mem_of_getElem? (i := 349) (by decide +kernel)
theorem tb_350 : Cond.selects RX5 yX5_copyFrom yX5_copyFrom ∈ lw_tbl := List.mem_of_getElem? (i := 350) (by decide +kernel)
theorem tb_351 : Cond.code yX5_copyFrom cX5_copyFrom 2 none ∈ lw_tbl := List.mem_of_getElem? (i := 351) (by decide +kernel)
theorem tb_352 : Cond.methodLink RX5 22 arraycopyName ∈ lw_tbl := List.mem_of_getElem? (i := 352) (by decide +kernel)
theorem tb_353 : Cond.methodLink RX4 65 yX0_copyFrom ∈ lw_tbl := List.mem_of_getElem? (i := 353) (by decide +kernel)
theorem tb_354 : Cond.instanceMethod yX0_copyFrom ∈ lw_tbl := List.mem_of_getElem? (i := 354) (by decide +kernel)
theorem tb_355 : Cond.selects RX0 yX0_copyFrom yX0_copyFrom ∈ lw_tbl := List.mem_of_getElem? (i := 355) (by decide +kernel)
theorem tb_356 : Cond.code yX0_copyFrom cX0_copyFrom 2 none ∈ lw_tbl := List.mem_of_getElem? (i := 356) (by decide +kernel)
theorem tb_357 : Cond.methodLink RX0 28 arraycopyName ∈ lw_tbl := List.mem_of_getElem? (i := 357) (by decide +kernel)
theorem tb_358 : Cond.methodLink RX9 55 yX4_putSwitch ∈ lw_tbl := List.mem_of_getElem? (i := 358) (by decide +kernel)
theorem tb_359 : Cond.instanceMethod yX4_putSwitch ∈ lw_tbl := List.mem_of_getElem? (i := 359) (by decide +kernel)
theorem tb_360 : Cond.selects RX4 yX4_putSwitch yX4_putSwitch ∈ lw_tbl := List.mem_of_getElem? (i := 360) (by decide +kernel)
theorem tb_361 : Cond.code yX4_putSwitch cX4_putSwitch 2 (some .int) ∈ lw_tbl := List.mem_of_getElem? (i := 361) (by decide +kernel)
theorem tb_362 : Cond.methodLink RL 18 yX9_setLookup ∈ lw_tbl := List.mem_of_getElem? (i := 362) (by decide +kernel)
theorem tb_363 : Cond.instanceMethod yX9_setLookup ∈ lw_tbl := List.mem_of_getElem? (i := 363) (by decide +kernel)
theorem tb_364 : Cond.selects RX9 yX9_setLookup yX9_setLookup ∈ lw_tbl := List.mem_of_getElem? (i := 364) (by decide +kernel)
theorem tb_365 : Cond.code yX9_setLookup cX9_setLookup 4 (some .int) ∈ lw_tbl := List.mem_of_getElem? (i := 365) (by decide +kernel)
theorem tb_366 : Cond.methodLink RX9 58 yX4_hasSwitch ∈ lw_tbl := List.mem_of_getElem? (i := 366) (by decide +kernel)
theorem tb_367 : Cond.instanceMethod yX4_hasSwitch ∈ lw_tbl := List.mem_of_getElem? (i := 367) (by decide +kernel)
theorem tb_368 : Cond.selects RX4 yX4_hasSwitch yX4_hasSwitch ∈ lw_tbl := List.mem_of_getElem? (i := 368) (by decide +kernel)
theorem tb_369 : Cond.code yX4_hasSwitch cX4_hasSwitch 2 (some .boolean) ∈ lw_tbl := List.mem_of_getElem? (i := 369) (by decide +kernel)
theorem tb_370 : Cond.methodLink RX9 62 yX4_looksUp ∈ lw_tbl := List.mem_of_getElem? (i := 370) (by decide +kernel)
theorem tb_371 : Cond.instanceMethod yX4_looksUp ∈ lw_tbl := List.mem_of_getElem? (i := 371) (by decide +kernel)
theorem tb_372 : Cond.selects RX4 yX4_looksUp yX4_looksUp ∈ lw_tbl := List.mem_of_getElem? (i := 372) (by decide +kernel)
theorem tb_373 : Cond.code yX4_looksUp cX4_looksUp 2 (some .boolean) ∈ lw_tbl := List.mem_of_getElem? (i := 373) (by decide +kernel)
theorem tb_374 : Cond.methodLink RX4 68 yX4_hasSwitch ∈ lw_tbl := List.mem_of_getElem? (i := 374) (by decide +kernel)
theorem tb_375 : Cond.methodLink RX9 65 yX4_changeLookup ∈ lw_tbl := List.mem_of_getElem? (i := 375) (by decide +kernel)
theorem tb_376 : Cond.instanceMethod yX4_changeLookup ∈ lw_tbl := List.mem_of_getElem? (i := 376) (by decide +kernel)
theorem tb_377 : Cond.selects RX4 yX4_changeLookup yX4_changeLookup ∈ lw_tbl := List.mem_of_getElem? (i := 377) (by decide +kernel)
theorem tb_378 : Cond.code yX4_changeLookup cX4_changeLookup 3 none ∈ lw_tbl := List.mem_of_getElem? (i := 378) (by decide +kernel)
theorem tb_379 : Cond.methodLink RL 23 yX9_setCodes ∈ lw_tbl := List.mem_of_getElem? (i := 379) (by decide +kernel)
theorem tb_380 : Cond.instanceMethod yX9_setCodes ∈ lw_tbl := List.mem_of_getElem? (i := 380) (by decide +kernel)
theorem tb_381 : Cond.selects RX9 yX9_setCodes yX9_setCodes ∈ lw_tbl := List.mem_of_getElem? (i := 381) (by decide +kernel)
theorem tb_382 : Cond.code yX9_setCodes cX9_setCodes 3 (some .int) ∈ lw_tbl := List.mem_of_getElem? (i := 382) (by decide +kernel)
theorem tb_383 : Cond.methodLink RX9 69 yX9_inRange ∈ lw_tbl := List.mem_of_getElem? (i := 383) (by decide +kernel)
theorem tb_384 : Cond.static yX9_inRange ∈ lw_tbl := List.mem_of_getElem? (i := 384) (by decide +kernel)
theorem tb_385 : Cond.code yX9_inRange cX9_inRange 3 (some .boolean) ∈ lw_tbl := List.mem_of_getElem? (i := 385) (by decide +kernel)
theorem tb_386 : Cond.methodLink RX9 73 yX4_changeCodes ∈ lw_tbl := List.mem_of_getElem? (i := 386) (by decide +kernel)
theorem tb_387 : Cond.instanceMethod yX4_changeCodes ∈ lw_tbl := List.mem_of_getElem? (i := 387) (by decide +kernel)
theorem tb_388 : Cond.selects RX4 yX4_changeCodes yX4_changeCodes ∈ lw_tbl := List.mem_of_getElem? (i := 388) (by decide +kernel)
theorem tb_389 : Cond.code yX4_changeCodes cX4_changeCodes 4 (some .int) ∈ lw_tbl := List.mem_of_getElem? (i := 389) (by decide +kernel)
theorem tb_390 : Cond.methodLink RL 28 yX9_setLimit ∈ lw_tbl := List.mem_of_getElem? (i := 390) (by decide +kernel)
theorem tb_391 : Cond.instanceMethod yX9_setLimit ∈ lw_tbl := List.mem_of_getElem? (i := 391) (by decide +kernel)
theorem tb_392 : Cond.selects RX9 yX9_setLimit yX9_setLimit ∈ lw_tbl := List.mem_of_getElem? (i := 392) (by decide +kernel)
theorem tb_393 : Cond.code yX9_setLimit cX9_setLimit 2 (some .int) ∈ lw_tbl := List.mem_of_getElem? (i := 393) (by decide +kernel)
theorem tb_394 : Cond.methodLink RX9 77 yX4_changeLimit ∈ lw_tbl := List.mem_of_getElem? (i := 394) (by decide +kernel)
theorem tb_395 : Cond.instanceMethod yX4_changeLimit ∈ lw_tbl := List.mem_of_getElem? (i := 395) (by decide +kernel)
theorem tb_396 : Cond.selects RX4 yX4_changeLimit yX4_changeLimit ∈ lw_tbl := List.mem_of_getElem? (i := 396) (by decide +kernel)
theorem tb_397 : Cond.code yX4_changeLimit cX4_changeLimit 3 (some .int) ∈ lw_tbl := List.mem_of_getElem? (i := 397) (by decide +kernel)
theorem tb_398 : Cond.methodLink RL 33 yX9_addRoute ∈ lw_tbl := List.mem_of_getElem? (i := 398) (by decide +kernel)
theorem tb_399 : Cond.instanceMethod yX9_addRoute ∈ lw_tbl := List.mem_of_getElem? (i := 399) (by decide +kernel)
theorem tb_400 : Cond.selects RX9 yX9_addRoute yX9_addRoute ∈ lw_tbl := List.mem_of_getElem? (i := 400) (by decide +kernel)
theorem tb_401 : Cond.code yX9_addRoute cX9_addRoute 7 (some .int) ∈ lw_tbl := List.mem_of_getElem? (i := 401) (by decide +kernel)
theorem tb_402 : Cond.methodLink RX9 81 yX4_routeRefusal ∈ lw_tbl := List.mem_of_getElem? (i := 402) (by decide +kernel)
theorem tb_403 : Cond.instanceMethod yX4_routeRefusal ∈ lw_tbl := List.mem_of_getElem? (i := 403) (by decide +kernel)
theorem tb_404 : Cond.selects RX4 yX4_routeRefusal yX4_routeRefusal ∈ lw_tbl := List.mem_of_getElem? (i := 404) (by decide +kernel)
theorem tb_405 : Cond.code yX4_routeRefusal cX4_routeRefusal 6 (some .int) ∈ lw_tbl := List.mem_of_getElem? (i := 405) (by decide +kernel)
theorem tb_406 : Cond.constant RX4 72 (999999999) ∈ lw_tbl := List.mem_of_getElem? (i := 406) (by decide +kernel)
theorem tb_407 : Cond.methodLinkNest RX4 73 yX9_inRange RX9 ∈ lw_tbl := List.mem_of_getElem? (i := 407) (by decide +kernel)
theorem tb_408 : Cond.methodLink RX4 77 yX6_size ∈ lw_tbl := List.mem_of_getElem? (i := 408) (by decide +kernel)
theorem tb_409 : Cond.instanceMethod yX6_size ∈ lw_tbl := List.mem_of_getElem? (i := 409) (by decide +kernel)
theorem tb_410 : Cond.selects RX6 yX6_size yX6_size ∈ lw_tbl := List.mem_of_getElem? (i := 410) (by decide +kernel)
theorem tb_411 : Cond.code yX6_size cX6_size 1 (some .int) ∈ lw_tbl := List.mem_of_getElem? (i := 411) (by decide +kernel)
theorem tb_412 : Cond.methodLink RX9 85 yX4_routeRows ∈ lw_tbl := List.mem_of_getElem? (i := 412) (by decide +kernel)
theorem tb_413 : Cond.instanceMethod yX4_routeRows ∈ lw_tbl := List.mem_of_getElem? (i := 413) (by decide +kernel)
theorem tb_414 : Cond.selects RX4 yX4_routeRows yX4_routeRows ∈ lw_tbl := List.mem_of_getElem? (i := 414) (by decide +kernel)
theorem tb_415 : Cond.code yX4_routeRows cX4_routeRows 1 (some (.object "CallRouter$Routes")) ∈ lw_tbl := List.mem_of_getElem? (i := 415) (by decide +kernel)
theorem tb_416 : Cond.methodLink RX9 89 yX6_put ∈ lw_tbl := List.mem_of_getElem? (i := 416) (by decide +kernel)
theorem tb_417 : Cond.instanceMethod yX6_put ∈ lw_tbl := List.mem_of_getElem? (i := 417) (by decide +kernel)
theorem tb_418 : Cond.selects RX6 yX6_put yX6_put ∈ lw_tbl := List.mem_of_getElem? (i := 418) (by decide +kernel)
theorem tb_419 : Cond.code yX6_put cX6_put 8 (some .int) ∈ lw_tbl := List.mem_of_getElem? (i := 419) (by decide +kernel)
theorem tb_420 : Cond.methodLink RL 38 yX9_setCost ∈ lw_tbl := List.mem_of_getElem? (i := 420) (by decide +kernel)
theorem tb_421 : Cond.instanceMethod yX9_setCost ∈ lw_tbl := List.mem_of_getElem? (i := 421) (by decide +kernel)
theorem tb_422 : Cond.selects RX9 yX9_setCost yX9_setCost ∈ lw_tbl := List.mem_of_getElem? (i := 422) (by decide +kernel)
theorem tb_423 : Cond.code yX9_setCost cX9_setCost 4 (some .int) ∈ lw_tbl := List.mem_of_getElem? (i := 423) (by decide +kernel)
theorem tb_424 : Cond.methodLink RX9 94 yX6_has ∈ lw_tbl := List.mem_of_getElem? (i := 424) (by decide +kernel)
theorem tb_425 : Cond.instanceMethod yX6_has ∈ lw_tbl := List.mem_of_getElem? (i := 425) (by decide +kernel)
theorem tb_426 : Cond.selects RX6 yX6_has yX6_has ∈ lw_tbl := List.mem_of_getElem? (i := 426) (by decide +kernel)
theorem tb_427 : Cond.code yX6_has cX6_has 2 (some .boolean) ∈ lw_tbl := List.mem_of_getElem? (i := 427) (by decide +kernel)
theorem tb_428 : Cond.methodLink RX9 97 yX6_changeCost ∈ lw_tbl := List.mem_of_getElem? (i := 428) (by decide +kernel)
theorem tb_429 : Cond.instanceMethod yX6_changeCost ∈ lw_tbl := List.mem_of_getElem? (i := 429) (by decide +kernel)
theorem tb_430 : Cond.selects RX6 yX6_changeCost yX6_changeCost ∈ lw_tbl := List.mem_of_getElem? (i := 430) (by decide +kernel)
theorem tb_431 : Cond.code yX6_changeCost cX6_changeCost 5 (some .int) ∈ lw_tbl := List.mem_of_getElem? (i := 431) (by decide +kernel)
theorem tb_432 : Cond.methodLink RX6 40 yX6_has ∈ lw_tbl := List.mem_of_getElem? (i := 432) (by decide +kernel)
theorem tb_433 : Cond.methodLinkNest RX6 44 yX9_inRange RX9 ∈ lw_tbl := List.mem_of_getElem? (i := 433) (by decide +kernel)
theorem tb_434 : Cond.methodLink RL 43 yX9_port ∈ lw_tbl := List.mem_of_getElem? (i := 434) (by decide +kernel)
theorem tb_435 : Cond.instanceMethod yX9_port ∈ lw_tbl := List.mem_of_getElem? (i := 435) (by decide +kernel)
theorem tb_436 : Cond.selects RX9 yX9_port yX9_port ∈ lw_tbl := List.mem_of_getElem? (i := 436) (by decide +kernel)
theorem tb_437 : Cond.code yX9_port cX9_port 4 (some .int) ∈ lw_tbl := List.mem_of_getElem? (i := 437) (by decide +kernel)
theorem tb_438 : Cond.methodLink RX9 101 yX4_portRefusal ∈ lw_tbl := List.mem_of_getElem? (i := 438) (by decide +kernel)
theorem tb_439 : Cond.instanceMethod yX4_portRefusal ∈ lw_tbl := List.mem_of_getElem? (i := 439) (by decide +kernel)
theorem tb_440 : Cond.selects RX4 yX4_portRefusal yX4_portRefusal ∈ lw_tbl := List.mem_of_getElem? (i := 440) (by decide +kernel)
theorem tb_441 : Cond.code yX4_portRefusal cX4_portRefusal 4 (some .int) ∈ lw_tbl := List.mem_of_getElem? (i := 441) (by decide +kernel)
theorem tb_442 : Cond.methodLinkNest RX4 81 yX9_isNumber RX9 ∈ lw_tbl := List.mem_of_getElem? (i := 442) (by decide +kernel)
theorem tb_443 : Cond.static yX9_isNumber ∈ lw_tbl := List.mem_of_getElem? (i := 443) (by decide +kernel)
theorem tb_444 : Cond.code yX9_isNumber cX9_isNumber 1 (some .boolean) ∈ lw_tbl := List.mem_of_getElem? (i := 444) (by decide +kernel)
theorem tb_445 : Cond.constant RX9 242 (999999999) ∈ lw_tbl := List.mem_of_getElem? (i := 445) (by decide +kernel)
theorem tb_446 : Cond.methodLink RX4 84 yX5_switchOf ∈ lw_tbl := List.mem_of_getElem? (i := 446) (by decide +kernel)
theorem tb_447 : Cond.instanceMethod yX5_switchOf ∈ lw_tbl := List.mem_of_getElem? (i := 447) (by decide +kernel)
theorem tb_448 : Cond.selects RX5 yX5_switchOf yX5_switchOf ∈ lw_tbl := List.mem_of_getElem? (i := 448) (by decide +kernel)
theorem tb_449 : Cond.code yX5_switchOf cX5_switchOf 3 (some .int) ∈ lw_tbl := List.mem_of_getElem? (i := 449) (by decide +kernel)
theorem tb_450 : Cond.methodLink RX5 28 yX5_indexOf ∈ lw_tbl := List.mem_of_getElem? (i := 450) (by decide +kernel)
theorem tb_452 : Cond.instanceMethod yX5_indexOf ∈ lw_tbl := List.mem_of_getElem? (i := 452) (by decide +kernel)
theorem tb_453 : Cond.code yX5_indexOf cX5_indexOf 3 (some .int) ∈ lw_tbl := List.mem_of_getElem? (i := 453) (by decide +kernel)
theorem tb_454 : Cond.methodLink RX4 88 yX5_size ∈ lw_tbl := List.mem_of_getElem? (i := 454) (by decide +kernel)
theorem tb_455 : Cond.instanceMethod yX5_size ∈ lw_tbl := List.mem_of_getElem? (i := 455) (by decide +kernel)
theorem tb_456 : Cond.selects RX5 yX5_size yX5_size ∈ lw_tbl := List.mem_of_getElem? (i := 456) (by decide +kernel)
theorem tb_457 : Cond.code yX5_size cX5_size 1 (some .int) ∈ lw_tbl := List.mem_of_getElem? (i := 457) (by decide +kernel)
theorem tb_458 : Cond.methodLink RX9 104 yX4_portRows ∈ lw_tbl := List.mem_of_getElem? (i := 458) (by decide +kernel)
theorem tb_459 : Cond.instanceMethod yX4_portRows ∈ lw_tbl := List.mem_of_getElem? (i := 459) (by decide +kernel)
theorem tb_460 : Cond.selects RX4 yX4_portRows yX4_portRows ∈ lw_tbl := List.mem_of_getElem? (i := 460) (by decide +kernel)
theorem tb_461 : Cond.code yX4_portRows cX4_portRows 1 (some (.object "CallRouter$Ports")) ∈ lw_tbl := List.mem_of_getElem? (i := 461) (by decide +kernel)
theorem tb_462 : Cond.methodLink RX9 108 yX5_put ∈ lw_tbl := List.mem_of_getElem? (i := 462) (by decide +kernel)
theorem tb_463 : Cond.instanceMethod yX5_put ∈ lw_tbl := List.mem_of_getElem? (i := 463) (by decide +kernel)
theorem tb_464 : Cond.selects RX5 yX5_put yX5_put ∈ lw_tbl := List.mem_of_getElem? (i := 464) (by decide +kernel)
theorem tb_465 : Cond.code yX5_put cX5_put 5 (some .int) ∈ lw_tbl := List.mem_of_getElem? (i := 465) (by decide +kernel)
theorem tb_466 : Cond.methodLink RL 47 yX9_unport ∈ lw_tbl := List.mem_of_getElem? (i := 466) (by decide +kernel)
theorem tb_467 : Cond.instanceMethod yX9_unport ∈ lw_tbl := List.mem_of_getElem? (i := 467) (by decide +kernel)
theorem tb_468 : Cond.selects RX9 yX9_unport yX9_unport ∈ lw_tbl := List.mem_of_getElem? (i := 468) (by decide +kernel)
theorem tb_469 : Cond.code yX9_unport cX9_unport 2 (some .int) ∈ lw_tbl := List.mem_of_getElem? (i := 469) (by decide +kernel)
theorem tb_470 : Cond.methodLink RX9 112 yX9_isNumber ∈ lw_tbl := List.mem_of_getElem? (i := 470) (by decide +kernel)
theorem tb_471 : Cond.methodLink RX9 115 yX5_switchOf ∈ lw_tbl := List.mem_of_getElem? (i := 471) (by decide +kernel)
theorem tb_472 : Cond.methodLink RX9 118 yX5_remove ∈ lw_tbl := List.mem_of_getElem? (i := 472) (by decide +kernel)
theorem tb_473 : Cond.instanceMethod yX5_remove ∈ lw_tbl := List.mem_of_getElem? (i := 473) (by decide +kernel)
theorem tb_474 : Cond.selects RX5 yX5_remove yX5_remove ∈ lw_tbl := List.mem_of_getElem? (i := 474) (by decide +kernel)
theorem tb_475 : Cond.code yX5_remove cX5_remove 4 (some .int) ∈ lw_tbl := List.mem_of_getElem? (i := 475) (by decide +kernel)
theorem tb_476 : Cond.methodLink RL 51 yX9_call ∈ lw_tbl := List.mem_of_getElem? (i := 476) (by decide +kernel)
end
section
theorem tb_477 : Cond.instanceMethod yX9_call ∈ lw_tbl := List.mem_of_getElem? (i := 477) (by decide +kernel)
theorem tb_478 : Cond.selects RX9 yX9_call yX9_call ∈ lw_tbl := List.mem_of_getElem? (i := 478) (by decide +kernel)
theorem tb_479 : Cond.code yX9_call cX9_call 5 (some .int) ∈ lw_tbl := List.mem_of_getElem? (i := 479) (by decide +kernel)
theorem tb_480 : Cond.methodLink RX9 121 yX4_callRows ∈ lw_tbl := List.mem_of_getElem? (i := 480) (by decide +kernel)
theorem tb_481 : Cond.instanceMethod yX4_callRows ∈ lw_tbl := List.mem_of_getElem? (i := 481) (by decide +kernel)
theorem tb_482 : Cond.selects RX4 yX4_callRows yX4_callRows ∈ lw_tbl := List.mem_of_getElem? (i := 482) (by decide +kernel)
theorem tb_483 : Cond.code yX4_callRows cX4_callRows 1 (some (.object "CallRouter$Calls")) ∈ lw_tbl := List.mem_of_getElem? (i := 483) (by decide +kernel)
theorem tb_484 : Cond.methodLink RX9 125 yX0_freePlace ∈ lw_tbl := List.mem_of_getElem? (i := 484) (by decide +kernel)
theorem tb_485 : Cond.instanceMethod yX0_freePlace ∈ lw_tbl := List.mem_of_getElem? (i := 485) (by decide +kernel)
theorem tb_486 : Cond.selects RX0 yX0_freePlace yX0_freePlace ∈ lw_tbl := List.mem_of_getElem? (i := 486) (by decide +kernel)
theorem tb_487 : Cond.code yX0_freePlace cX0_freePlace 2 (some .int) ∈ lw_tbl := List.mem_of_getElem? (i := 487) (by decide +kernel)
theorem tb_488 : Cond.methodLink RX9 130 yX3_start ∈ lw_tbl := List.mem_of_getElem? (i := 488) (by decide +kernel)
theorem tb_489 : Cond.instanceMethod yX3_start ∈ lw_tbl := List.mem_of_getElem? (i := 489) (by decide +kernel)
theorem tb_490 : Cond.selects RX3 yX3_start yX3_start ∈ lw_tbl := List.mem_of_getElem? (i := 490) (by decide +kernel)
theorem tb_491 : Cond.code yX3_start cX3_start 4 (some .int) ∈ lw_tbl := List.mem_of_getElem? (i := 491) (by decide +kernel)
theorem tb_492 : Cond.methodLink RX3 35 yX4_minutes ∈ lw_tbl := List.mem_of_getElem? (i := 492) (by decide +kernel)
theorem tb_493 : Cond.instanceMethod yX4_minutes ∈ lw_tbl := List.mem_of_getElem? (i := 493) (by decide +kernel)
theorem tb_494 : Cond.selects RX4 yX4_minutes yX4_minutes ∈ lw_tbl := List.mem_of_getElem? (i := 494) (by decide +kernel)
theorem tb_495 : Cond.code yX4_minutes cX4_minutes 1 (some .int) ∈ lw_tbl := List.mem_of_getElem? (i := 495) (by decide +kernel)
theorem tb_496 : Cond.methodLinkNest RX3 41 yX9_bandOf RX9 ∈ lw_tbl := List.mem_of_getElem? (i := 496) (by decide +kernel)
theorem tb_497 : Cond.static yX9_bandOf ∈ lw_tbl := List.mem_of_getElem? (i := 497) (by decide +kernel)
theorem tb_498 : Cond.code yX9_bandOf cX9_bandOf 2 (some .int) ∈ lw_tbl := List.mem_of_getElem? (i := 498) (by decide +kernel)
theorem tb_499 : Cond.methodLink RX9 243 yJ9_floorMod_7cf53 ∈ lw_tbl := List.mem_of_getElem? (i := 499) (by decide +kernel)
theorem tb_500 : Cond.methodLink RX3 45 yX4_callRows ∈ lw_tbl := List.mem_of_getElem? (i := 500) (by decide +kernel)
theorem tb_501 : Cond.methodLink RX3 49 yX0_isBusy ∈ lw_tbl := List.mem_of_getElem? (i := 501) (by decide +kernel)
theorem tb_502 : Cond.instanceMethod yX0_isBusy ∈ lw_tbl := List.mem_of_getElem? (i := 502) (by decide +kernel)
theorem tb_503 : Cond.selects RX0 yX0_isBusy yX0_isBusy ∈ lw_tbl := List.mem_of_getElem? (i := 503) (by decide +kernel)
theorem tb_504 : Cond.code yX0_isBusy cX0_isBusy 3 (some .boolean) ∈ lw_tbl := List.mem_of_getElem? (i := 504) (by decide +kernel)
theorem tb_505 : Cond.methodLink RX3 55 yX8_empty ∈ lw_tbl := List.mem_of_getElem? (i := 505) (by decide +kernel)
theorem tb_506 : Cond.instanceMethod yX8_empty ∈ lw_tbl := List.mem_of_getElem? (i := 506) (by decide +kernel)
theorem tb_507 : Cond.selects RX8 yX8_empty yX8_empty ∈ lw_tbl := List.mem_of_getElem? (i := 507) (by decide +kernel)
theorem tb_508 : Cond.code yX8_empty cX8_empty 1 none ∈ lw_tbl := List.mem_of_getElem? (i := 508) (by decide +kernel)
theorem tb_509 : Cond.methodLink RX3 58 yX3_arrive ∈ lw_tbl := List.mem_of_getElem? (i := 509) (by decide +kernel)
theorem tb_511 : Cond.instanceMethod yX3_arrive ∈ lw_tbl := List.mem_of_getElem? (i := 511) (by decide +kernel)
theorem tb_512 : Cond.code yX3_arrive cX3_arrive 7 (some .int) ∈ lw_tbl := List.mem_of_getElem? (i := 512) (by decide +kernel)
theorem tb_513 : Cond.methodLink RX3 62 yJ6_bitCount_0f7a4 ∈ lw_tbl := List.mem_of_getElem? (i := 513) (by decide +kernel)
theorem tb_514 : Cond.static yJ6_bitCount_0f7a4 ∈ lw_tbl := List.mem_of_getElem? (i := 514) (by decide +kernel)
theorem tb_515 : Cond.code yJ6_bitCount_0f7a4 cJ6_bitCount_0f7a4 1 (some .int) ∈ lw_tbl := List.mem_of_getElem? (i := 515) (by decide +kernel)
theorem tb_516 : Cond.constant RJ6 265 (1431655765) ∈ lw_tbl := List.mem_of_getElem? (i := 516) (by decide +kernel)
theorem tb_517 : Cond.constant RJ6 266 (858993459) ∈ lw_tbl := List.mem_of_getElem? (i := 517) (by decide +kernel)
theorem tb_518 : Cond.constant RJ6 267 (252645135) ∈ lw_tbl := List.mem_of_getElem? (i := 518) (by decide +kernel)
theorem tb_519 : Cond.methodLink RX3 67 yX4_hopLimit ∈ lw_tbl := List.mem_of_getElem? (i := 519) (by decide +kernel)
theorem tb_520 : Cond.instanceMethod yX4_hopLimit ∈ lw_tbl := List.mem_of_getElem? (i := 520) (by decide +kernel)
theorem tb_521 : Cond.selects RX4 yX4_hopLimit yX4_hopLimit ∈ lw_tbl := List.mem_of_getElem? (i := 521) (by decide +kernel)
theorem tb_522 : Cond.code yX4_hopLimit cX4_hopLimit 1 (some .int) ∈ lw_tbl := List.mem_of_getElem? (i := 522) (by decide +kernel)
theorem tb_523 : Cond.methodLink RX3 70 yX4_markAt ∈ lw_tbl := List.mem_of_getElem? (i := 523) (by decide +kernel)
theorem tb_524 : Cond.instanceMethod yX4_markAt ∈ lw_tbl := List.mem_of_getElem? (i := 524) (by decide +kernel)
theorem tb_525 : Cond.selects RX4 yX4_markAt yX4_markAt ∈ lw_tbl := List.mem_of_getElem? (i := 525) (by decide +kernel)
theorem tb_526 : Cond.code yX4_markAt cX4_markAt 4 (some .int) ∈ lw_tbl := List.mem_of_getElem? (i := 526) (by decide +kernel)
theorem tb_527 : Cond.methodLink RX4 89 yX4_looksUp ∈ lw_tbl := List.mem_of_getElem? (i := 527) (by decide +kernel)
theorem tb_528 : Cond.methodLink RX3 74 yX3_tryRoutes ∈ lw_tbl := List.mem_of_getElem? (i := 528) (by decide +kernel)
theorem tb_530 : Cond.instanceMethod yX3_tryRoutes ∈ lw_tbl := List.mem_of_getElem? (i := 530) (by decide +kernel)
theorem tb_531 : Cond.code yX3_tryRoutes cX3_tryRoutes 10 (some .int) ∈ lw_tbl := List.mem_of_getElem? (i := 531) (by decide +kernel)
theorem tb_532 : Cond.methodLink RX3 77 yX4_routeRows ∈ lw_tbl := List.mem_of_getElem? (i := 532) (by decide +kernel)
theorem tb_533 : Cond.methodLinkNest RX3 81 yX9_digitsOf RX9 ∈ lw_tbl := List.mem_of_getElem? (i := 533) (by decide +kernel)
theorem tb_534 : Cond.static yX9_digitsOf ∈ lw_tbl := List.mem_of_getElem? (i := 534) (by decide +kernel)
theorem tb_535 : Cond.code yX9_digitsOf cX9_digitsOf 5 (some .long) ∈ lw_tbl := List.mem_of_getElem? (i := 535) (by decide +kernel)
theorem tb_536 : Cond.constantLong RX9 248 (10) ∈ lw_tbl := List.mem_of_getElem? (i := 536) (by decide +kernel)
theorem tb_537 : Cond.constantLong RX9 250 (9900) ∈ lw_tbl := List.mem_of_getElem? (i := 537) (by decide +kernel)
theorem tb_538 : Cond.methodLink RX3 85 yX6_longestPrefix ∈ lw_tbl := List.mem_of_getElem? (i := 538) (by decide +kernel)
theorem tb_539 : Cond.instanceMethod yX6_longestPrefix ∈ lw_tbl := List.mem_of_getElem? (i := 539) (by decide +kernel)
theorem tb_540 : Cond.selects RX6 yX6_longestPrefix yX6_longestPrefix ∈ lw_tbl := List.mem_of_getElem? (i := 540) (by decide +kernel)
theorem tb_541 : Cond.code yX6_longestPrefix cX6_longestPrefix 7 (some .int) ∈ lw_tbl := List.mem_of_getElem? (i := 541) (by decide +kernel)
theorem tb_542 : Cond.methodLinkNest RX6 55 yX9_beginsWith RX9 ∈ lw_tbl := List.mem_of_getElem? (i := 542) (by decide +kernel)
theorem tb_543 : Cond.static yX9_beginsWith ∈ lw_tbl := List.mem_of_getElem? (i := 543) (by decide +kernel)
theorem tb_544 : Cond.code yX9_beginsWith cX9_beginsWith 6 (some .boolean) ∈ lw_tbl := List.mem_of_getElem? (i := 544) (by decide +kernel)
theorem tb_545 : Cond.methodLink RX3 91 yX6_choiceAfter ∈ lw_tbl := List.mem_of_getElem? (i := 545) (by decide +kernel)
theorem tb_546 : Cond.instanceMethod yX6_choiceAfter ∈ lw_tbl := List.mem_of_getElem? (i := 546) (by decide +kernel)
theorem tb_547 : Cond.selects RX6 yX6_choiceAfter yX6_choiceAfter ∈ lw_tbl := List.mem_of_getElem? (i := 547) (by decide +kernel)
theorem tb_548 : Cond.code yX6_choiceAfter cX6_choiceAfter 7 (some .int) ∈ lw_tbl := List.mem_of_getElem? (i := 548) (by decide +kernel)
theorem tb_549 : Cond.methodLink RX6 59 yX6_belongs ∈ lw_tbl := List.mem_of_getElem? (i := 549) (by decide +kernel)
theorem tb_550 : Cond.instanceMethod yX6_belongs ∈ lw_tbl := List.mem_of_getElem? (i := 550) (by decide +kernel)
theorem tb_551 : Cond.selects RX6 yX6_belongs yX6_belongs ∈ lw_tbl := List.mem_of_getElem? (i := 551) (by decide +kernel)
theorem tb_552 : Cond.code yX6_belongs cX6_belongs 4 (some .boolean) ∈ lw_tbl := List.mem_of_getElem? (i := 552) (by decide +kernel)
theorem tb_553 : Cond.methodLink RX6 62 yX6_isBefore ∈ lw_tbl := List.mem_of_getElem? (i := 553) (by decide +kernel)
theorem tb_555 : Cond.instanceMethod yX6_isBefore ∈ lw_tbl := List.mem_of_getElem? (i := 555) (by decide +kernel)
theorem tb_556 : Cond.code yX6_isBefore cX6_isBefore 6 (some .boolean) ∈ lw_tbl := List.mem_of_getElem? (i := 556) (by decide +kernel)
theorem tb_557 : Cond.methodLink RX6 51 yX6_costOf ∈ lw_tbl := List.mem_of_getElem? (i := 557) (by decide +kernel)
theorem tb_558 : Cond.instanceMethod yX6_costOf ∈ lw_tbl := List.mem_of_getElem? (i := 558) (by decide +kernel)
theorem tb_559 : Cond.selects RX6 yX6_costOf yX6_costOf ∈ lw_tbl := List.mem_of_getElem? (i := 559) (by decide +kernel)
theorem tb_560 : Cond.code yX6_costOf cX6_costOf 4 (some .int) ∈ lw_tbl := List.mem_of_getElem? (i := 560) (by decide +kernel)
theorem tb_561 : Cond.methodLink RX3 95 yX3_tryRoute ∈ lw_tbl := List.mem_of_getElem? (i := 561) (by decide +kernel)
theorem tb_563 : Cond.instanceMethod yX3_tryRoute ∈ lw_tbl := List.mem_of_getElem? (i := 563) (by decide +kernel)
theorem tb_564 : Cond.code yX3_tryRoute cX3_tryRoute 9 (some .int) ∈ lw_tbl := List.mem_of_getElem? (i := 564) (by decide +kernel)
theorem tb_565 : Cond.methodLink RX3 102 yX8_begin ∈ lw_tbl := List.mem_of_getElem? (i := 565) (by decide +kernel)
theorem tb_566 : Cond.instanceMethod yX8_begin ∈ lw_tbl := List.mem_of_getElem? (i := 566) (by decide +kernel)
theorem tb_567 : Cond.selects RX8 yX8_begin yX8_begin ∈ lw_tbl := List.mem_of_getElem? (i := 567) (by decide +kernel)
theorem tb_568 : Cond.code yX8_begin cX8_begin 2 (some .int) ∈ lw_tbl := List.mem_of_getElem? (i := 568) (by decide +kernel)
theorem tb_569 : Cond.methodLink RX3 105 yX6_serves ∈ lw_tbl := List.mem_of_getElem? (i := 569) (by decide +kernel)
theorem tb_570 : Cond.instanceMethod yX6_serves ∈ lw_tbl := List.mem_of_getElem? (i := 570) (by decide +kernel)
theorem tb_571 : Cond.selects RX6 yX6_serves yX6_serves ∈ lw_tbl := List.mem_of_getElem? (i := 571) (by decide +kernel)
theorem tb_572 : Cond.code yX6_serves cX6_serves 2 (some .boolean) ∈ lw_tbl := List.mem_of_getElem? (i := 572) (by decide +kernel)
theorem tb_573 : Cond.methodLink RX3 108 yX6_hasFreeLine ∈ lw_tbl := List.mem_of_getElem? (i := 573) (by decide +kernel)
theorem tb_574 : Cond.instanceMethod yX6_hasFreeLine ∈ lw_tbl := List.mem_of_getElem? (i := 574) (by decide +kernel)
theorem tb_575 : Cond.selects RX6 yX6_hasFreeLine yX6_hasFreeLine ∈ lw_tbl := List.mem_of_getElem? (i := 575) (by decide +kernel)
theorem tb_576 : Cond.code yX6_hasFreeLine cX6_hasFreeLine 2 (some .boolean) ∈ lw_tbl := List.mem_of_getElem? (i := 576) (by decide +kernel)
theorem tb_577 : Cond.methodLink RX3 111 yX6_nextOf ∈ lw_tbl := List.mem_of_getElem? (i := 577) (by decide +kernel)
theorem tb_578 : Cond.instanceMethod yX6_nextOf ∈ lw_tbl := List.mem_of_getElem? (i := 578) (by decide +kernel)
theorem tb_579 : Cond.selects RX6 yX6_nextOf yX6_nextOf ∈ lw_tbl := List.mem_of_getElem? (i := 579) (by decide +kernel)
theorem tb_580 : Cond.code yX6_nextOf cX6_nextOf 2 (some .int) ∈ lw_tbl := List.mem_of_getElem? (i := 580) (by decide +kernel)
theorem tb_581 : Cond.methodLink RX3 114 yX6_switchOf ∈ lw_tbl := List.mem_of_getElem? (i := 581) (by decide +kernel)
theorem tb_582 : Cond.instanceMethod yX6_switchOf ∈ lw_tbl := List.mem_of_getElem? (i := 582) (by decide +kernel)
theorem tb_583 : Cond.selects RX6 yX6_switchOf yX6_switchOf ∈ lw_tbl := List.mem_of_getElem? (i := 583) (by decide +kernel)
theorem tb_584 : Cond.code yX6_switchOf cX6_switchOf 2 (some .int) ∈ lw_tbl := List.mem_of_getElem? (i := 584) (by decide +kernel)
theorem tb_585 : Cond.methodLink RX3 117 yX8_finish ∈ lw_tbl := List.mem_of_getElem? (i := 585) (by decide +kernel)
theorem tb_586 : Cond.instanceMethod yX8_finish ∈ lw_tbl := List.mem_of_getElem? (i := 586) (by decide +kernel)
theorem tb_587 : Cond.selects RX8 yX8_finish yX8_finish ∈ lw_tbl := List.mem_of_getElem? (i := 587) (by decide +kernel)
theorem tb_588 : Cond.code yX8_finish cX8_finish 3 none ∈ lw_tbl := List.mem_of_getElem? (i := 588) (by decide +kernel)
theorem tb_589 : Cond.methodLink RX8 22 yX8_has ∈ lw_tbl := List.mem_of_getElem? (i := 589) (by decide +kernel)
theorem tb_590 : Cond.instanceMethod yX8_has ∈ lw_tbl := List.mem_of_getElem? (i := 590) (by decide +kernel)
theorem tb_591 : Cond.selects RX8 yX8_has yX8_has ∈ lw_tbl := List.mem_of_getElem? (i := 591) (by decide +kernel)
theorem tb_592 : Cond.code yX8_has cX8_has 2 (some .boolean) ∈ lw_tbl := List.mem_of_getElem? (i := 592) (by decide +kernel)
theorem tb_593 : Cond.methodLink RX3 98 yX4_goesOn ∈ lw_tbl := List.mem_of_getElem? (i := 593) (by decide +kernel)
theorem tb_594 : Cond.instanceMethod yX4_goesOn ∈ lw_tbl := List.mem_of_getElem? (i := 594) (by decide +kernel)
theorem tb_595 : Cond.selects RX4 yX4_goesOn yX4_goesOn ∈ lw_tbl := List.mem_of_getElem? (i := 595) (by decide +kernel)
theorem tb_596 : Cond.code yX4_goesOn cX4_goesOn 3 (some .boolean) ∈ lw_tbl := List.mem_of_getElem? (i := 596) (by decide +kernel)
theorem tb_597 : Cond.methodLink RX9 134 yX4_connect ∈ lw_tbl := List.mem_of_getElem? (i := 597) (by decide +kernel)
theorem tb_598 : Cond.instanceMethod yX4_connect ∈ lw_tbl := List.mem_of_getElem? (i := 598) (by decide +kernel)
theorem tb_599 : Cond.selects RX4 yX4_connect yX4_connect ∈ lw_tbl := List.mem_of_getElem? (i := 599) (by decide +kernel)
theorem tb_600 : Cond.code yX4_connect cX4_connect 5 none ∈ lw_tbl := List.mem_of_getElem? (i := 600) (by decide +kernel)
theorem tb_601 : Cond.methodLink RX4 92 yX3_number ∈ lw_tbl := List.mem_of_getElem? (i := 601) (by decide +kernel)
theorem tb_602 : Cond.instanceMethod yX3_number ∈ lw_tbl := List.mem_of_getElem? (i := 602) (by decide +kernel)
theorem tb_603 : Cond.selects RX3 yX3_number yX3_number ∈ lw_tbl := List.mem_of_getElem? (i := 603) (by decide +kernel)
theorem tb_604 : Cond.code yX3_number cX3_number 1 (some .int) ∈ lw_tbl := List.mem_of_getElem? (i := 604) (by decide +kernel)
theorem tb_605 : Cond.methodLink RX4 97 yX0_put ∈ lw_tbl := List.mem_of_getElem? (i := 605) (by decide +kernel)
theorem tb_606 : Cond.instanceMethod yX0_put ∈ lw_tbl := List.mem_of_getElem? (i := 606) (by decide +kernel)
theorem tb_607 : Cond.selects RX0 yX0_put yX0_put ∈ lw_tbl := List.mem_of_getElem? (i := 607) (by decide +kernel)
theorem tb_608 : Cond.code yX0_put cX0_put 4 none ∈ lw_tbl := List.mem_of_getElem? (i := 608) (by decide +kernel)
theorem tb_609 : Cond.methodLinkNest RX0 34 yX9_inRange RX9 ∈ lw_tbl := List.mem_of_getElem? (i := 609) (by decide +kernel)
theorem tb_610 : Cond.methodLink RX4 101 yX3_length ∈ lw_tbl := List.mem_of_getElem? (i := 610) (by decide +kernel)
theorem tb_611 : Cond.instanceMethod yX3_length ∈ lw_tbl := List.mem_of_getElem? (i := 611) (by decide +kernel)
theorem tb_612 : Cond.selects RX3 yX3_length yX3_length ∈ lw_tbl := List.mem_of_getElem? (i := 612) (by decide +kernel)
theorem tb_613 : Cond.code yX3_length cX3_length 1 (some .int) ∈ lw_tbl := List.mem_of_getElem? (i := 613) (by decide +kernel)
theorem tb_614 : Cond.methodLink RX4 104 yX3_step ∈ lw_tbl := List.mem_of_getElem? (i := 614) (by decide +kernel)
theorem tb_615 : Cond.instanceMethod yX3_step ∈ lw_tbl := List.mem_of_getElem? (i := 615) (by decide +kernel)
theorem tb_616 : Cond.selects RX3 yX3_step yX3_step ∈ lw_tbl := List.mem_of_getElem? (i := 616) (by decide +kernel)
theorem tb_617 : Cond.code yX3_step cX3_step 2 (some .int) ∈ lw_tbl := List.mem_of_getElem? (i := 617) (by decide +kernel)
theorem tb_618 : Cond.methodLink RX4 107 yX0_addStep ∈ lw_tbl := List.mem_of_getElem? (i := 618) (by decide +kernel)
theorem tb_619 : Cond.instanceMethod yX0_addStep ∈ lw_tbl := List.mem_of_getElem? (i := 619) (by decide +kernel)
theorem tb_620 : Cond.selects RX0 yX0_addStep yX0_addStep ∈ lw_tbl := List.mem_of_getElem? (i := 620) (by decide +kernel)
theorem tb_621 : Cond.code yX0_addStep cX0_addStep 3 none ∈ lw_tbl := List.mem_of_getElem? (i := 621) (by decide +kernel)
theorem tb_622 : Cond.methodLink RX0 38 yX0_has ∈ lw_tbl := List.mem_of_getElem? (i := 622) (by decide +kernel)
theorem tb_623 : Cond.instanceMethod yX0_has ∈ lw_tbl := List.mem_of_getElem? (i := 623) (by decide +kernel)
theorem tb_624 : Cond.selects RX0 yX0_has yX0_has ∈ lw_tbl := List.mem_of_getElem? (i := 624) (by decide +kernel)
theorem tb_625 : Cond.code yX0_has cX0_has 2 (some .boolean) ∈ lw_tbl := List.mem_of_getElem? (i := 625) (by decide +kernel)
theorem tb_626 : Cond.methodLink RX4 111 yX6_occupy ∈ lw_tbl := List.mem_of_getElem? (i := 626) (by decide +kernel)
theorem tb_627 : Cond.instanceMethod yX6_occupy ∈ lw_tbl := List.mem_of_getElem? (i := 627) (by decide +kernel)
theorem tb_628 : Cond.selects RX6 yX6_occupy yX6_occupy ∈ lw_tbl := List.mem_of_getElem? (i := 628) (by decide +kernel)
theorem tb_629 : Cond.code yX6_occupy cX6_occupy 2 none ∈ lw_tbl := List.mem_of_getElem? (i := 629) (by decide +kernel)
theorem tb_630 : Cond.methodLink RX6 48 yX6_serves ∈ lw_tbl := List.mem_of_getElem? (i := 630) (by decide +kernel)
theorem tb_631 : Cond.methodLink RL 55 yX9_end ∈ lw_tbl := List.mem_of_getElem? (i := 631) (by decide +kernel)
theorem tb_632 : Cond.instanceMethod yX9_end ∈ lw_tbl := List.mem_of_getElem? (i := 632) (by decide +kernel)
theorem tb_633 : Cond.selects RX9 yX9_end yX9_end ∈ lw_tbl := List.mem_of_getElem? (i := 633) (by decide +kernel)
theorem tb_634 : Cond.code yX9_end cX9_end 2 (some .int) ∈ lw_tbl := List.mem_of_getElem? (i := 634) (by decide +kernel)
theorem tb_635 : Cond.methodLink RX9 138 yX0_has ∈ lw_tbl := List.mem_of_getElem? (i := 635) (by decide +kernel)
theorem tb_636 : Cond.methodLink RX9 139 yX4_settle ∈ lw_tbl := List.mem_of_getElem? (i := 636) (by decide +kernel)
theorem tb_637 : Cond.instanceMethod yX4_settle ∈ lw_tbl := List.mem_of_getElem? (i := 637) (by decide +kernel)
theorem tb_638 : Cond.selects RX4 yX4_settle yX4_settle ∈ lw_tbl := List.mem_of_getElem? (i := 638) (by decide +kernel)
theorem tb_639 : Cond.code yX4_settle cX4_settle 6 (some .int) ∈ lw_tbl := List.mem_of_getElem? (i := 639) (by decide +kernel)
theorem tb_640 : Cond.methodLink RX4 115 yX0_startOf ∈ lw_tbl := List.mem_of_getElem? (i := 640) (by decide +kernel)
theorem tb_641 : Cond.instanceMethod yX0_startOf ∈ lw_tbl := List.mem_of_getElem? (i := 641) (by decide +kernel)
theorem tb_642 : Cond.selects RX0 yX0_startOf yX0_startOf ∈ lw_tbl := List.mem_of_getElem? (i := 642) (by decide +kernel)
theorem tb_643 : Cond.code yX0_startOf cX0_startOf 2 (some .int) ∈ lw_tbl := List.mem_of_getElem? (i := 643) (by decide +kernel)
theorem tb_644 : Cond.methodLink RX4 118 yJ9_max_7cf53 ∈ lw_tbl := List.mem_of_getElem? (i := 644) (by decide +kernel)
theorem tb_645 : Cond.static yJ9_max_7cf53 ∈ lw_tbl := List.mem_of_getElem? (i := 645) (by decide +kernel)
theorem tb_646 : Cond.code yJ9_max_7cf53 cJ9_max_7cf53 2 (some .int) ∈ lw_tbl := List.mem_of_getElem? (i := 646) (by decide +kernel)
theorem tb_647 : Cond.methodLink RX4 124 yX0_length ∈ lw_tbl := List.mem_of_getElem? (i := 647) (by decide +kernel)
theorem tb_648 : Cond.instanceMethod yX0_length ∈ lw_tbl := List.mem_of_getElem? (i := 648) (by decide +kernel)
theorem tb_649 : Cond.selects RX0 yX0_length yX0_length ∈ lw_tbl := List.mem_of_getElem? (i := 649) (by decide +kernel)
theorem tb_650 : Cond.code yX0_length cX0_length 2 (some .int) ∈ lw_tbl := List.mem_of_getElem? (i := 650) (by decide +kernel)
theorem tb_651 : Cond.methodLink RX4 126 yX0_step ∈ lw_tbl := List.mem_of_getElem? (i := 651) (by decide +kernel)
theorem tb_652 : Cond.instanceMethod yX0_step ∈ lw_tbl := List.mem_of_getElem? (i := 652) (by decide +kernel)
theorem tb_653 : Cond.selects RX0 yX0_step yX0_step ∈ lw_tbl := List.mem_of_getElem? (i := 653) (by decide +kernel)
theorem tb_654 : Cond.code yX0_step cX0_step 3 (some .int) ∈ lw_tbl := List.mem_of_getElem? (i := 654) (by decide +kernel)
theorem tb_655 : Cond.methodLink RX0 42 yX0_length ∈ lw_tbl := List.mem_of_getElem? (i := 655) (by decide +kernel)
theorem tb_656 : Cond.methodLinkNest RX4 128 yX9_bandOf RX9 ∈ lw_tbl := List.mem_of_getElem? (i := 656) (by decide +kernel)
theorem tb_657 : Cond.methodLink RX4 131 yX4_settleStep ∈ lw_tbl := List.mem_of_getElem? (i := 657) (by decide +kernel)
theorem tb_659 : Cond.instanceMethod yX4_settleStep ∈ lw_tbl := List.mem_of_getElem? (i := 659) (by decide +kernel)
theorem tb_660 : Cond.code yX4_settleStep cX4_settleStep 5 (some .int) ∈ lw_tbl := List.mem_of_getElem? (i := 660) (by decide +kernel)
theorem tb_661 : Cond.methodLink RX4 138 yX6_serves ∈ lw_tbl := List.mem_of_getElem? (i := 661) (by decide +kernel)
theorem tb_662 : Cond.methodLink RX4 141 yX6_costOf ∈ lw_tbl := List.mem_of_getElem? (i := 662) (by decide +kernel)
theorem tb_663 : Cond.methodLink RX4 144 yX6_release ∈ lw_tbl := List.mem_of_getElem? (i := 663) (by decide +kernel)
theorem tb_664 : Cond.instanceMethod yX6_release ∈ lw_tbl := List.mem_of_getElem? (i := 664) (by decide +kernel)
theorem tb_665 : Cond.selects RX6 yX6_release yX6_release ∈ lw_tbl := List.mem_of_getElem? (i := 665) (by decide +kernel)
theorem tb_666 : Cond.code yX6_release cX6_release 2 none ∈ lw_tbl := List.mem_of_getElem? (i := 666) (by decide +kernel)
theorem tb_667 : Cond.methodLink RX4 147 yX6_switchOf ∈ lw_tbl := List.mem_of_getElem? (i := 667) (by decide +kernel)
theorem tb_668 : Cond.methodLink RX4 148 yX6_nextOf ∈ lw_tbl := List.mem_of_getElem? (i := 668) (by decide +kernel)
theorem tb_669 : Cond.methodLink RX4 151 yX4_addDebt ∈ lw_tbl := List.mem_of_getElem? (i := 669) (by decide +kernel)
theorem tb_671 : Cond.instanceMethod yX4_addDebt ∈ lw_tbl := List.mem_of_getElem? (i := 671) (by decide +kernel)
theorem tb_672 : Cond.code yX4_addDebt cX4_addDebt 4 none ∈ lw_tbl := List.mem_of_getElem? (i := 672) (by decide +kernel)
theorem tb_673 : Cond.methodLink RX4 135 yX0_remove ∈ lw_tbl := List.mem_of_getElem? (i := 673) (by decide +kernel)
theorem tb_674 : Cond.instanceMethod yX0_remove ∈ lw_tbl := List.mem_of_getElem? (i := 674) (by decide +kernel)
theorem tb_675 : Cond.selects RX0 yX0_remove yX0_remove ∈ lw_tbl := List.mem_of_getElem? (i := 675) (by decide +kernel)
theorem tb_676 : Cond.code yX0_remove cX0_remove 2 none ∈ lw_tbl := List.mem_of_getElem? (i := 676) (by decide +kernel)
theorem tb_677 : Cond.methodLink RL 59 yX9_pass ∈ lw_tbl := List.mem_of_getElem? (i := 677) (by decide +kernel)
theorem tb_678 : Cond.instanceMethod yX9_pass ∈ lw_tbl := List.mem_of_getElem? (i := 678) (by decide +kernel)
theorem tb_679 : Cond.selects RX9 yX9_pass yX9_pass ∈ lw_tbl := List.mem_of_getElem? (i := 679) (by decide +kernel)
theorem tb_680 : Cond.code yX9_pass cX9_pass 2 (some .int) ∈ lw_tbl := List.mem_of_getElem? (i := 680) (by decide +kernel)
theorem tb_681 : Cond.methodLink RX9 142 yX4_minutes ∈ lw_tbl := List.mem_of_getElem? (i := 681) (by decide +kernel)
theorem tb_682 : Cond.constant RX9 145 (1000000) ∈ lw_tbl := List.mem_of_getElem? (i := 682) (by decide +kernel)
theorem tb_683 : Cond.methodLink RX9 146 yX4_letPass ∈ lw_tbl := List.mem_of_getElem? (i := 683) (by decide +kernel)
theorem tb_684 : Cond.instanceMethod yX4_letPass ∈ lw_tbl := List.mem_of_getElem? (i := 684) (by decide +kernel)
theorem tb_685 : Cond.selects RX4 yX4_letPass yX4_letPass ∈ lw_tbl := List.mem_of_getElem? (i := 685) (by decide +kernel)
theorem tb_686 : Cond.code yX4_letPass cX4_letPass 2 (some .int) ∈ lw_tbl := List.mem_of_getElem? (i := 686) (by decide +kernel)
theorem tb_687 : Cond.methodLink RL 63 yX9_time ∈ lw_tbl := List.mem_of_getElem? (i := 687) (by decide +kernel)
theorem tb_688 : Cond.instanceMethod yX9_time ∈ lw_tbl := List.mem_of_getElem? (i := 688) (by decide +kernel)
theorem tb_689 : Cond.selects RX9 yX9_time yX9_time ∈ lw_tbl := List.mem_of_getElem? (i := 689) (by decide +kernel)
theorem tb_690 : Cond.code yX9_time cX9_time 1 (some .int) ∈ lw_tbl := List.mem_of_getElem? (i := 690) (by decide +kernel)
theorem tb_691 : Cond.methodLink RL 67 yX9_band ∈ lw_tbl := List.mem_of_getElem? (i := 691) (by decide +kernel)
theorem tb_692 : Cond.instanceMethod yX9_band ∈ lw_tbl := List.mem_of_getElem? (i := 692) (by decide +kernel)
theorem tb_693 : Cond.selects RX9 yX9_band yX9_band ∈ lw_tbl := List.mem_of_getElem? (i := 693) (by decide +kernel)
theorem tb_694 : Cond.code yX9_band cX9_band 1 (some .int) ∈ lw_tbl := List.mem_of_getElem? (i := 694) (by decide +kernel)
theorem tb_695 : Cond.methodLink RX9 149 yX9_bandOf ∈ lw_tbl := List.mem_of_getElem? (i := 695) (by decide +kernel)
theorem tb_696 : Cond.methodLink RL 71 yX9_route ∈ lw_tbl := List.mem_of_getElem? (i := 696) (by decide +kernel)
theorem tb_697 : Cond.instanceMethod yX9_route ∈ lw_tbl := List.mem_of_getElem? (i := 697) (by decide +kernel)
theorem tb_698 : Cond.selects RX9 yX9_route yX9_route ∈ lw_tbl := List.mem_of_getElem? (i := 698) (by decide +kernel)
theorem tb_699 : Cond.code yX9_route cX9_route 3 (some .int) ∈ lw_tbl := List.mem_of_getElem? (i := 699) (by decide +kernel)
theorem tb_700 : Cond.methodLink RX9 152 yX6_numberOf ∈ lw_tbl := List.mem_of_getElem? (i := 700) (by decide +kernel)
theorem tb_701 : Cond.instanceMethod yX6_numberOf ∈ lw_tbl := List.mem_of_getElem? (i := 701) (by decide +kernel)
theorem tb_702 : Cond.selects RX6 yX6_numberOf yX6_numberOf ∈ lw_tbl := List.mem_of_getElem? (i := 702) (by decide +kernel)
theorem tb_703 : Cond.code yX6_numberOf cX6_numberOf 3 (some .int) ∈ lw_tbl := List.mem_of_getElem? (i := 703) (by decide +kernel)
theorem tb_704 : Cond.methodLink RL 75 yX9_choice ∈ lw_tbl := List.mem_of_getElem? (i := 704) (by decide +kernel)
theorem tb_705 : Cond.instanceMethod yX9_choice ∈ lw_tbl := List.mem_of_getElem? (i := 705) (by decide +kernel)
theorem tb_706 : Cond.selects RX9 yX9_choice yX9_choice ∈ lw_tbl := List.mem_of_getElem? (i := 706) (by decide +kernel)
theorem tb_707 : Cond.code yX9_choice cX9_choice 9 (some .int) ∈ lw_tbl := List.mem_of_getElem? (i := 707) (by decide +kernel)
theorem tb_708 : Cond.methodLink RX9 155 yX9_digitsOf ∈ lw_tbl := List.mem_of_getElem? (i := 708) (by decide +kernel)
theorem tb_709 : Cond.methodLink RX9 159 yX6_longestPrefix ∈ lw_tbl := List.mem_of_getElem? (i := 709) (by decide +kernel)
theorem tb_710 : Cond.methodLink RX9 163 yX6_choiceAfter ∈ lw_tbl := List.mem_of_getElem? (i := 710) (by decide +kernel)
theorem tb_711 : Cond.methodLink RL 79 yX9_calls ∈ lw_tbl := List.mem_of_getElem? (i := 711) (by decide +kernel)
theorem tb_712 : Cond.instanceMethod yX9_calls ∈ lw_tbl := List.mem_of_getElem? (i := 712) (by decide +kernel)
theorem tb_713 : Cond.selects RX9 yX9_calls yX9_calls ∈ lw_tbl := List.mem_of_getElem? (i := 713) (by decide +kernel)
theorem tb_714 : Cond.code yX9_calls cX9_calls 1 (some .int) ∈ lw_tbl := List.mem_of_getElem? (i := 714) (by decide +kernel)
theorem tb_715 : Cond.methodLink RX9 167 yX0_size ∈ lw_tbl := List.mem_of_getElem? (i := 715) (by decide +kernel)
theorem tb_716 : Cond.instanceMethod yX0_size ∈ lw_tbl := List.mem_of_getElem? (i := 716) (by decide +kernel)
theorem tb_717 : Cond.selects RX0 yX0_size yX0_size ∈ lw_tbl := List.mem_of_getElem? (i := 717) (by decide +kernel)
theorem tb_718 : Cond.code yX0_size cX0_size 1 (some .int) ∈ lw_tbl := List.mem_of_getElem? (i := 718) (by decide +kernel)
theorem tb_719 : Cond.methodLink RL 83 yX9_way ∈ lw_tbl := List.mem_of_getElem? (i := 719) (by decide +kernel)
theorem tb_720 : Cond.instanceMethod yX9_way ∈ lw_tbl := List.mem_of_getElem? (i := 720) (by decide +kernel)
theorem tb_721 : Cond.selects RX9 yX9_way yX9_way ∈ lw_tbl := List.mem_of_getElem? (i := 721) (by decide +kernel)
theorem tb_722 : Cond.code yX9_way cX9_way 3 (some .int) ∈ lw_tbl := List.mem_of_getElem? (i := 722) (by decide +kernel)
theorem tb_723 : Cond.methodLink RX9 170 yX0_step ∈ lw_tbl := List.mem_of_getElem? (i := 723) (by decide +kernel)
theorem tb_724 : Cond.methodLink RL 87 yX9_called ∈ lw_tbl := List.mem_of_getElem? (i := 724) (by decide +kernel)
theorem tb_725 : Cond.instanceMethod yX9_called ∈ lw_tbl := List.mem_of_getElem? (i := 725) (by decide +kernel)
theorem tb_726 : Cond.selects RX9 yX9_called yX9_called ∈ lw_tbl := List.mem_of_getElem? (i := 726) (by decide +kernel)
theorem tb_727 : Cond.code yX9_called cX9_called 2 (some .int) ∈ lw_tbl := List.mem_of_getElem? (i := 727) (by decide +kernel)
theorem tb_728 : Cond.methodLink RX9 173 yX0_numberAt ∈ lw_tbl := List.mem_of_getElem? (i := 728) (by decide +kernel)
theorem tb_729 : Cond.instanceMethod yX0_numberAt ∈ lw_tbl := List.mem_of_getElem? (i := 729) (by decide +kernel)
theorem tb_730 : Cond.selects RX0 yX0_numberAt yX0_numberAt ∈ lw_tbl := List.mem_of_getElem? (i := 730) (by decide +kernel)
theorem tb_731 : Cond.code yX0_numberAt cX0_numberAt 2 (some .int) ∈ lw_tbl := List.mem_of_getElem? (i := 731) (by decide +kernel)
theorem tb_732 : Cond.methodLink RL 91 yX9_owes ∈ lw_tbl := List.mem_of_getElem? (i := 732) (by decide +kernel)
theorem tb_733 : Cond.instanceMethod yX9_owes ∈ lw_tbl := List.mem_of_getElem? (i := 733) (by decide +kernel)
theorem tb_734 : Cond.selects RX9 yX9_owes yX9_owes ∈ lw_tbl := List.mem_of_getElem? (i := 734) (by decide +kernel)
theorem tb_735 : Cond.code yX9_owes cX9_owes 3 (some .int) ∈ lw_tbl := List.mem_of_getElem? (i := 735) (by decide +kernel)
theorem tb_736 : Cond.methodLink RX9 176 yX4_debt ∈ lw_tbl := List.mem_of_getElem? (i := 736) (by decide +kernel)
theorem tb_737 : Cond.instanceMethod yX4_debt ∈ lw_tbl := List.mem_of_getElem? (i := 737) (by decide +kernel)
theorem tb_738 : Cond.selects RX4 yX4_debt yX4_debt ∈ lw_tbl := List.mem_of_getElem? (i := 738) (by decide +kernel)
theorem tb_739 : Cond.code yX4_debt cX4_debt 3 (some .int) ∈ lw_tbl := List.mem_of_getElem? (i := 739) (by decide +kernel)
theorem tb_740 : Cond.methodLink RL 95 yX9_attempts ∈ lw_tbl := List.mem_of_getElem? (i := 740) (by decide +kernel)
theorem tb_741 : Cond.instanceMethod yX9_attempts ∈ lw_tbl := List.mem_of_getElem? (i := 741) (by decide +kernel)
theorem tb_742 : Cond.selects RX9 yX9_attempts yX9_attempts ∈ lw_tbl := List.mem_of_getElem? (i := 742) (by decide +kernel)
theorem tb_743 : Cond.code yX9_attempts cX9_attempts 1 (some .int) ∈ lw_tbl := List.mem_of_getElem? (i := 743) (by decide +kernel)
theorem tb_744 : Cond.methodLink RX9 179 yX3_trace ∈ lw_tbl := List.mem_of_getElem? (i := 744) (by decide +kernel)
theorem tb_745 : Cond.instanceMethod yX3_trace ∈ lw_tbl := List.mem_of_getElem? (i := 745) (by decide +kernel)
theorem tb_746 : Cond.selects RX3 yX3_trace yX3_trace ∈ lw_tbl := List.mem_of_getElem? (i := 746) (by decide +kernel)
theorem tb_747 : Cond.code yX3_trace cX3_trace 1 (some (.object "CallRouter$Trace")) ∈ lw_tbl := List.mem_of_getElem? (i := 747) (by decide +kernel)
theorem tb_748 : Cond.methodLink RX9 183 yX8_size ∈ lw_tbl := List.mem_of_getElem? (i := 748) (by decide +kernel)
theorem tb_749 : Cond.instanceMethod yX8_size ∈ lw_tbl := List.mem_of_getElem? (i := 749) (by decide +kernel)
theorem tb_750 : Cond.selects RX8 yX8_size yX8_size ∈ lw_tbl := List.mem_of_getElem? (i := 750) (by decide +kernel)
theorem tb_751 : Cond.code yX8_size cX8_size 1 (some .int) ∈ lw_tbl := List.mem_of_getElem? (i := 751) (by decide +kernel)
theorem tb_752 : Cond.methodLink RL 99 yX9_attempt ∈ lw_tbl := List.mem_of_getElem? (i := 752) (by decide +kernel)
theorem tb_753 : Cond.instanceMethod yX9_attempt ∈ lw_tbl := List.mem_of_getElem? (i := 753) (by decide +kernel)
theorem tb_754 : Cond.selects RX9 yX9_attempt yX9_attempt ∈ lw_tbl := List.mem_of_getElem? (i := 754) (by decide +kernel)
theorem tb_755 : Cond.code yX9_attempt cX9_attempt 4 (some .int) ∈ lw_tbl := List.mem_of_getElem? (i := 755) (by decide +kernel)
theorem tb_756 : Cond.methodLink RX9 186 yX8_has ∈ lw_tbl := List.mem_of_getElem? (i := 756) (by decide +kernel)
theorem tb_757 : Cond.methodLink RX9 187 yX8_routeAt ∈ lw_tbl := List.mem_of_getElem? (i := 757) (by decide +kernel)
theorem tb_758 : Cond.instanceMethod yX8_routeAt ∈ lw_tbl := List.mem_of_getElem? (i := 758) (by decide +kernel)
theorem tb_759 : Cond.selects RX8 yX8_routeAt yX8_routeAt ∈ lw_tbl := List.mem_of_getElem? (i := 759) (by decide +kernel)
theorem tb_760 : Cond.code yX8_routeAt cX8_routeAt 2 (some .int) ∈ lw_tbl := List.mem_of_getElem? (i := 760) (by decide +kernel)
theorem tb_761 : Cond.methodLink RX9 190 yX8_codeAt ∈ lw_tbl := List.mem_of_getElem? (i := 761) (by decide +kernel)
theorem tb_762 : Cond.instanceMethod yX8_codeAt ∈ lw_tbl := List.mem_of_getElem? (i := 762) (by decide +kernel)
theorem tb_763 : Cond.selects RX8 yX8_codeAt yX8_codeAt ∈ lw_tbl := List.mem_of_getElem? (i := 763) (by decide +kernel)
theorem tb_764 : Cond.code yX8_codeAt cX8_codeAt 2 (some .int) ∈ lw_tbl := List.mem_of_getElem? (i := 764) (by decide +kernel)
theorem tb_765 : Cond.methodLink RL 103 yX9_cheapest ∈ lw_tbl := List.mem_of_getElem? (i := 765) (by decide +kernel)
theorem tb_766 : Cond.instanceMethod yX9_cheapest ∈ lw_tbl := List.mem_of_getElem? (i := 766) (by decide +kernel)
theorem tb_767 : Cond.selects RX9 yX9_cheapest yX9_cheapest ∈ lw_tbl := List.mem_of_getElem? (i := 767) (by decide +kernel)
theorem tb_768 : Cond.code yX9_cheapest cX9_cheapest 3 (some .int) ∈ lw_tbl := List.mem_of_getElem? (i := 768) (by decide +kernel)
theorem tb_769 : Cond.methodLink RX9 193 yX1_search ∈ lw_tbl := List.mem_of_getElem? (i := 769) (by decide +kernel)
theorem tb_770 : Cond.instanceMethod yX1_search ∈ lw_tbl := List.mem_of_getElem? (i := 770) (by decide +kernel)
theorem tb_771 : Cond.selects RX1 yX1_search yX1_search ∈ lw_tbl := List.mem_of_getElem? (i := 771) (by decide +kernel)
theorem tb_772 : Cond.code yX1_search cX1_search 5 (some .int) ∈ lw_tbl := List.mem_of_getElem? (i := 772) (by decide +kernel)
theorem tb_773 : Cond.methodLink RX1 26 yX1_fill ∈ lw_tbl := List.mem_of_getElem? (i := 773) (by decide +kernel)
theorem tb_775 : Cond.instanceMethod yX1_fill ∈ lw_tbl := List.mem_of_getElem? (i := 775) (by decide +kernel)
theorem tb_776 : Cond.code yX1_fill cX1_fill 7 none ∈ lw_tbl := List.mem_of_getElem? (i := 776) (by decide +kernel)
theorem tb_777 : Cond.methodLinkNest RX1 46 yX9_digitsOf RX9 ∈ lw_tbl := List.mem_of_getElem? (i := 777) (by decide +kernel)
theorem tb_778 : Cond.methodLink RX1 50 yX4_switchCount ∈ lw_tbl := List.mem_of_getElem? (i := 778) (by decide +kernel)
theorem tb_779 : Cond.methodLink RX1 54 yX4_routeRows ∈ lw_tbl := List.mem_of_getElem? (i := 779) (by decide +kernel)
theorem tb_780 : Cond.methodLink RX1 58 yX6_longestPrefix ∈ lw_tbl := List.mem_of_getElem? (i := 780) (by decide +kernel)
theorem tb_781 : Cond.methodLink RX1 64 yX1_fillSwitch ∈ lw_tbl := List.mem_of_getElem? (i := 781) (by decide +kernel)
theorem tb_783 : Cond.instanceMethod yX1_fillSwitch ∈ lw_tbl := List.mem_of_getElem? (i := 783) (by decide +kernel)
theorem tb_784 : Cond.code yX1_fillSwitch cX1_fillSwitch 10 none ∈ lw_tbl := List.mem_of_getElem? (i := 784) (by decide +kernel)
theorem tb_785 : Cond.methodLink RX1 68 yX4_minutes ∈ lw_tbl := List.mem_of_getElem? (i := 785) (by decide +kernel)
theorem tb_786 : Cond.methodLinkNest RX1 71 yX9_bandOf RX9 ∈ lw_tbl := List.mem_of_getElem? (i := 786) (by decide +kernel)
theorem tb_787 : Cond.methodLink RX1 74 yX6_size ∈ lw_tbl := List.mem_of_getElem? (i := 787) (by decide +kernel)
theorem tb_788 : Cond.methodLink RX1 77 yX6_nextOf ∈ lw_tbl := List.mem_of_getElem? (i := 788) (by decide +kernel)
theorem tb_789 : Cond.methodLink RX1 80 yX6_belongs ∈ lw_tbl := List.mem_of_getElem? (i := 789) (by decide +kernel)
theorem tb_790 : Cond.methodLink RX1 84 yX6_serves ∈ lw_tbl := List.mem_of_getElem? (i := 790) (by decide +kernel)
theorem tb_791 : Cond.methodLink RX1 88 yX6_costOf ∈ lw_tbl := List.mem_of_getElem? (i := 791) (by decide +kernel)
theorem tb_792 : Cond.methodLink RX1 92 yJ9_min_7cf53 ∈ lw_tbl := List.mem_of_getElem? (i := 792) (by decide +kernel)
theorem tb_793 : Cond.static yJ9_min_7cf53 ∈ lw_tbl := List.mem_of_getElem? (i := 793) (by decide +kernel)
theorem tb_794 : Cond.code yJ9_min_7cf53 cJ9_min_7cf53 2 (some .int) ∈ lw_tbl := List.mem_of_getElem? (i := 794) (by decide +kernel)
theorem tb_795 : Cond.methodLink RX1 30 yX4_portRows ∈ lw_tbl := List.mem_of_getElem? (i := 795) (by decide +kernel)
theorem tb_796 : Cond.methodLink RX1 36 yX5_switchOf ∈ lw_tbl := List.mem_of_getElem? (i := 796) (by decide +kernel)
theorem tb_797 : Cond.methodLink RX1 42 yX1_arrive ∈ lw_tbl := List.mem_of_getElem? (i := 797) (by decide +kernel)
theorem tb_799 : Cond.instanceMethod yX1_arrive ∈ lw_tbl := List.mem_of_getElem? (i := 799) (by decide +kernel)
theorem tb_800 : Cond.code yX1_arrive cX1_arrive 10 none ∈ lw_tbl := List.mem_of_getElem? (i := 800) (by decide +kernel)
theorem tb_801 : Cond.methodLink RX1 97 yJ6_bitCount_0f7a4 ∈ lw_tbl := List.mem_of_getElem? (i := 801) (by decide +kernel)
theorem tb_802 : Cond.methodLink RX1 102 yX4_hopLimit ∈ lw_tbl := List.mem_of_getElem? (i := 802) (by decide +kernel)
theorem tb_803 : Cond.methodLink RX1 105 yX4_markAt ∈ lw_tbl := List.mem_of_getElem? (i := 803) (by decide +kernel)
theorem tb_804 : Cond.methodLink RX1 109 yX1_costBetween ∈ lw_tbl := List.mem_of_getElem? (i := 804) (by decide +kernel)
theorem tb_806 : Cond.instanceMethod yX1_costBetween ∈ lw_tbl := List.mem_of_getElem? (i := 806) (by decide +kernel)
theorem tb_807 : Cond.code yX1_costBetween cX1_costBetween 5 (some .int) ∈ lw_tbl := List.mem_of_getElem? (i := 807) (by decide +kernel)
theorem tb_808 : Cond.methodLink RL 107 yX9_type ∈ lw_tbl := List.mem_of_getElem? (i := 808) (by decide +kernel)
theorem tb_809 : Cond.instanceMethod yX9_type ∈ lw_tbl := List.mem_of_getElem? (i := 809) (by decide +kernel)
theorem tb_810 : Cond.selects RX9 yX9_type yX9_type ∈ lw_tbl := List.mem_of_getElem? (i := 810) (by decide +kernel)
theorem tb_811 : Cond.code yX9_type cX9_type 2 (some .int) ∈ lw_tbl := List.mem_of_getElem? (i := 811) (by decide +kernel)
theorem tb_812 : Cond.methodLink RX9 196 yX7_append ∈ lw_tbl := List.mem_of_getElem? (i := 812) (by decide +kernel)
theorem tb_813 : Cond.instanceMethod yX7_append ∈ lw_tbl := List.mem_of_getElem? (i := 813) (by decide +kernel)
theorem tb_814 : Cond.selects RX7 yX7_append yX7_append ∈ lw_tbl := List.mem_of_getElem? (i := 814) (by decide +kernel)
theorem tb_815 : Cond.code yX7_append cX7_append 2 (some .boolean) ∈ lw_tbl := List.mem_of_getElem? (i := 815) (by decide +kernel)
theorem tb_816 : Cond.methodLink RX9 200 yX7_size ∈ lw_tbl := List.mem_of_getElem? (i := 816) (by decide +kernel)
theorem tb_817 : Cond.instanceMethod yX7_size ∈ lw_tbl := List.mem_of_getElem? (i := 817) (by decide +kernel)
theorem tb_818 : Cond.selects RX7 yX7_size yX7_size ∈ lw_tbl := List.mem_of_getElem? (i := 818) (by decide +kernel)
theorem tb_819 : Cond.code yX7_size cX7_size 1 (some .int) ∈ lw_tbl := List.mem_of_getElem? (i := 819) (by decide +kernel)
theorem tb_820 : Cond.methodLink RL 111 yX9_clear ∈ lw_tbl := List.mem_of_getElem? (i := 820) (by decide +kernel)
theorem tb_821 : Cond.instanceMethod yX9_clear ∈ lw_tbl := List.mem_of_getElem? (i := 821) (by decide +kernel)
theorem tb_822 : Cond.selects RX9 yX9_clear yX9_clear ∈ lw_tbl := List.mem_of_getElem? (i := 822) (by decide +kernel)
theorem tb_823 : Cond.code yX9_clear cX9_clear 2 (some .int) ∈ lw_tbl := List.mem_of_getElem? (i := 823) (by decide +kernel)
theorem tb_824 : Cond.methodLink RX9 201 yX7_empty ∈ lw_tbl := List.mem_of_getElem? (i := 824) (by decide +kernel)
theorem tb_825 : Cond.instanceMethod yX7_empty ∈ lw_tbl := List.mem_of_getElem? (i := 825) (by decide +kernel)
theorem tb_826 : Cond.selects RX7 yX7_empty yX7_empty ∈ lw_tbl := List.mem_of_getElem? (i := 826) (by decide +kernel)
theorem tb_827 : Cond.code yX7_empty cX7_empty 1 none ∈ lw_tbl := List.mem_of_getElem? (i := 827) (by decide +kernel)
theorem tb_828 : Cond.methodLink RL 115 yX9_run ∈ lw_tbl := List.mem_of_getElem? (i := 828) (by decide +kernel)
theorem tb_829 : Cond.instanceMethod yX9_run ∈ lw_tbl := List.mem_of_getElem? (i := 829) (by decide +kernel)
theorem tb_830 : Cond.selects RX9 yX9_run yX9_run ∈ lw_tbl := List.mem_of_getElem? (i := 830) (by decide +kernel)
theorem tb_831 : Cond.code yX9_run cX9_run 3 (some .int) ∈ lw_tbl := List.mem_of_getElem? (i := 831) (by decide +kernel)
theorem tb_832 : Cond.methodLink RX9 204 yX7_parse ∈ lw_tbl := List.mem_of_getElem? (i := 832) (by decide +kernel)
theorem tb_833 : Cond.instanceMethod yX7_parse ∈ lw_tbl := List.mem_of_getElem? (i := 833) (by decide +kernel)
theorem tb_834 : Cond.selects RX7 yX7_parse yX7_parse ∈ lw_tbl := List.mem_of_getElem? (i := 834) (by decide +kernel)
theorem tb_835 : Cond.code yX7_parse cX7_parse 2 (some .boolean) ∈ lw_tbl := List.mem_of_getElem? (i := 835) (by decide +kernel)
theorem tb_836 : Cond.methodLink RX7 44 yX7_readCommand ∈ lw_tbl := List.mem_of_getElem? (i := 836) (by decide +kernel)
theorem tb_838 : Cond.instanceMethod yX7_readCommand ∈ lw_tbl := List.mem_of_getElem? (i := 838) (by decide +kernel)
end
section
theorem tb_839 : Cond.code yX7_readCommand cX7_readCommand 2 (some .boolean) ∈ lw_tbl := List.mem_of_getElem? (i := 839) (by decide +kernel)
theorem tb_840 : Cond.methodLink RX7 52 yX7_sign ∈ lw_tbl := List.mem_of_getElem? (i := 840) (by decide +kernel)
theorem tb_842 : Cond.instanceMethod yX7_sign ∈ lw_tbl := List.mem_of_getElem? (i := 842) (by decide +kernel)
theorem tb_843 : Cond.code yX7_sign cX7_sign 1 (some .char) ∈ lw_tbl := List.mem_of_getElem? (i := 843) (by decide +kernel)
theorem tb_844 : Cond.methodLink RX7 48 yX7_skip ∈ lw_tbl := List.mem_of_getElem? (i := 844) (by decide +kernel)
theorem tb_846 : Cond.instanceMethod yX7_skip ∈ lw_tbl := List.mem_of_getElem? (i := 846) (by decide +kernel)
theorem tb_847 : Cond.code yX7_skip cX7_skip 2 (some .boolean) ∈ lw_tbl := List.mem_of_getElem? (i := 847) (by decide +kernel)
theorem tb_848 : Cond.methodLink RX7 60 yX7_readRoute ∈ lw_tbl := List.mem_of_getElem? (i := 848) (by decide +kernel)
theorem tb_850 : Cond.instanceMethod yX7_readRoute ∈ lw_tbl := List.mem_of_getElem? (i := 850) (by decide +kernel)
theorem tb_851 : Cond.code yX7_readRoute cX7_readRoute 2 (some .boolean) ∈ lw_tbl := List.mem_of_getElem? (i := 851) (by decide +kernel)
theorem tb_852 : Cond.methodLink RX7 66 yX7_readSwitch ∈ lw_tbl := List.mem_of_getElem? (i := 852) (by decide +kernel)
theorem tb_854 : Cond.instanceMethod yX7_readSwitch ∈ lw_tbl := List.mem_of_getElem? (i := 854) (by decide +kernel)
theorem tb_855 : Cond.code yX7_readSwitch cX7_readSwitch 2 (some .boolean) ∈ lw_tbl := List.mem_of_getElem? (i := 855) (by decide +kernel)
theorem tb_856 : Cond.methodLink RX7 69 yX7_readDigit ∈ lw_tbl := List.mem_of_getElem? (i := 856) (by decide +kernel)
theorem tb_858 : Cond.instanceMethod yX7_readDigit ∈ lw_tbl := List.mem_of_getElem? (i := 858) (by decide +kernel)
theorem tb_859 : Cond.code yX7_readDigit cX7_readDigit 2 (some .int) ∈ lw_tbl := List.mem_of_getElem? (i := 859) (by decide +kernel)
theorem tb_860 : Cond.methodLink RX7 56 yX7_isDigit ∈ lw_tbl := List.mem_of_getElem? (i := 860) (by decide +kernel)
theorem tb_862 : Cond.instanceMethod yX7_isDigit ∈ lw_tbl := List.mem_of_getElem? (i := 862) (by decide +kernel)
theorem tb_863 : Cond.code yX7_isDigit cX7_isDigit 1 (some .boolean) ∈ lw_tbl := List.mem_of_getElem? (i := 863) (by decide +kernel)
theorem tb_864 : Cond.methodLink RX7 73 yX7_readDigits ∈ lw_tbl := List.mem_of_getElem? (i := 864) (by decide +kernel)
theorem tb_866 : Cond.instanceMethod yX7_readDigits ∈ lw_tbl := List.mem_of_getElem? (i := 866) (by decide +kernel)
theorem tb_867 : Cond.code yX7_readDigits cX7_readDigits 4 (some .int) ∈ lw_tbl := List.mem_of_getElem? (i := 867) (by decide +kernel)
theorem tb_868 : Cond.methodLink RX7 63 yX7_readPort ∈ lw_tbl := List.mem_of_getElem? (i := 868) (by decide +kernel)
theorem tb_870 : Cond.instanceMethod yX7_readPort ∈ lw_tbl := List.mem_of_getElem? (i := 870) (by decide +kernel)
theorem tb_871 : Cond.code yX7_readPort cX7_readPort 2 (some .boolean) ∈ lw_tbl := List.mem_of_getElem? (i := 871) (by decide +kernel)
theorem tb_872 : Cond.methodLink RX9 208 yX7_errorPlace ∈ lw_tbl := List.mem_of_getElem? (i := 872) (by decide +kernel)
theorem tb_873 : Cond.instanceMethod yX7_errorPlace ∈ lw_tbl := List.mem_of_getElem? (i := 873) (by decide +kernel)
theorem tb_874 : Cond.selects RX7 yX7_errorPlace yX7_errorPlace ∈ lw_tbl := List.mem_of_getElem? (i := 874) (by decide +kernel)
theorem tb_875 : Cond.code yX7_errorPlace cX7_errorPlace 1 (some .int) ∈ lw_tbl := List.mem_of_getElem? (i := 875) (by decide +kernel)
theorem tb_876 : Cond.methodLink RX9 211 yX4_copyFrom ∈ lw_tbl := List.mem_of_getElem? (i := 876) (by decide +kernel)
theorem tb_877 : Cond.methodLink RX9 214 yX7_commandCount ∈ lw_tbl := List.mem_of_getElem? (i := 877) (by decide +kernel)
theorem tb_878 : Cond.instanceMethod yX7_commandCount ∈ lw_tbl := List.mem_of_getElem? (i := 878) (by decide +kernel)
theorem tb_879 : Cond.selects RX7 yX7_commandCount yX7_commandCount ∈ lw_tbl := List.mem_of_getElem? (i := 879) (by decide +kernel)
theorem tb_880 : Cond.code yX7_commandCount cX7_commandCount 1 (some .int) ∈ lw_tbl := List.mem_of_getElem? (i := 880) (by decide +kernel)
theorem tb_881 : Cond.methodLink RX9 217 yX7_carryOut ∈ lw_tbl := List.mem_of_getElem? (i := 881) (by decide +kernel)
theorem tb_882 : Cond.instanceMethod yX7_carryOut ∈ lw_tbl := List.mem_of_getElem? (i := 882) (by decide +kernel)
theorem tb_883 : Cond.selects RX7 yX7_carryOut yX7_carryOut ∈ lw_tbl := List.mem_of_getElem? (i := 883) (by decide +kernel)
theorem tb_884 : Cond.code yX7_carryOut cX7_carryOut 3 (some .boolean) ∈ lw_tbl := List.mem_of_getElem? (i := 884) (by decide +kernel)
theorem tb_885 : Cond.methodLink RX7 77 yX7_putRoute ∈ lw_tbl := List.mem_of_getElem? (i := 885) (by decide +kernel)
theorem tb_887 : Cond.instanceMethod yX7_putRoute ∈ lw_tbl := List.mem_of_getElem? (i := 887) (by decide +kernel)
theorem tb_888 : Cond.code yX7_putRoute cX7_putRoute 5 (some .boolean) ∈ lw_tbl := List.mem_of_getElem? (i := 888) (by decide +kernel)
theorem tb_889 : Cond.methodLink RX7 87 yX4_routeRefusal ∈ lw_tbl := List.mem_of_getElem? (i := 889) (by decide +kernel)
theorem tb_890 : Cond.methodLink RX7 93 yX4_routeRows ∈ lw_tbl := List.mem_of_getElem? (i := 890) (by decide +kernel)
theorem tb_891 : Cond.methodLink RX7 97 yX6_put ∈ lw_tbl := List.mem_of_getElem? (i := 891) (by decide +kernel)
theorem tb_892 : Cond.methodLink RX7 81 yX7_putPort ∈ lw_tbl := List.mem_of_getElem? (i := 892) (by decide +kernel)
theorem tb_894 : Cond.instanceMethod yX7_putPort ∈ lw_tbl := List.mem_of_getElem? (i := 894) (by decide +kernel)
theorem tb_895 : Cond.code yX7_putPort cX7_putPort 3 (some .boolean) ∈ lw_tbl := List.mem_of_getElem? (i := 895) (by decide +kernel)
theorem tb_896 : Cond.methodLink RX7 102 yX4_portRefusal ∈ lw_tbl := List.mem_of_getElem? (i := 896) (by decide +kernel)
theorem tb_897 : Cond.methodLink RX7 106 yX4_portRows ∈ lw_tbl := List.mem_of_getElem? (i := 897) (by decide +kernel)
theorem tb_898 : Cond.methodLink RX7 110 yX5_put ∈ lw_tbl := List.mem_of_getElem? (i := 898) (by decide +kernel)
theorem tb_899 : Cond.methodLink RX7 84 yX7_letLookUp ∈ lw_tbl := List.mem_of_getElem? (i := 899) (by decide +kernel)
theorem tb_901 : Cond.instanceMethod yX7_letLookUp ∈ lw_tbl := List.mem_of_getElem? (i := 901) (by decide +kernel)
theorem tb_902 : Cond.code yX7_letLookUp cX7_letLookUp 3 (some .boolean) ∈ lw_tbl := List.mem_of_getElem? (i := 902) (by decide +kernel)
theorem tb_903 : Cond.methodLink RX7 114 yX4_hasSwitch ∈ lw_tbl := List.mem_of_getElem? (i := 903) (by decide +kernel)
theorem tb_904 : Cond.methodLink RX7 117 yX4_changeLookup ∈ lw_tbl := List.mem_of_getElem? (i := 904) (by decide +kernel)
theorem tb_905 : Cond.methodLink RL 119 yX9_undo ∈ lw_tbl := List.mem_of_getElem? (i := 905) (by decide +kernel)
theorem tb_906 : Cond.instanceMethod yX9_undo ∈ lw_tbl := List.mem_of_getElem? (i := 906) (by decide +kernel)
theorem tb_907 : Cond.selects RX9 yX9_undo yX9_undo ∈ lw_tbl := List.mem_of_getElem? (i := 907) (by decide +kernel)
theorem tb_908 : Cond.code yX9_undo cX9_undo 1 (some .int) ∈ lw_tbl := List.mem_of_getElem? (i := 908) (by decide +kernel)
theorem tb_909 : Cond.methodLink RX9 221 yX2_pop ∈ lw_tbl := List.mem_of_getElem? (i := 909) (by decide +kernel)
theorem tb_910 : Cond.instanceMethod yX2_pop ∈ lw_tbl := List.mem_of_getElem? (i := 910) (by decide +kernel)
theorem tb_911 : Cond.selects RX2 yX2_pop yX2_pop ∈ lw_tbl := List.mem_of_getElem? (i := 911) (by decide +kernel)
theorem tb_912 : Cond.code yX2_pop cX2_pop 3 (some .boolean) ∈ lw_tbl := List.mem_of_getElem? (i := 912) (by decide +kernel)
theorem tb_913 : Cond.methodLink RX9 225 yX2_size ∈ lw_tbl := List.mem_of_getElem? (i := 913) (by decide +kernel)
theorem tb_914 : Cond.instanceMethod yX2_size ∈ lw_tbl := List.mem_of_getElem? (i := 914) (by decide +kernel)
theorem tb_915 : Cond.selects RX2 yX2_size yX2_size ∈ lw_tbl := List.mem_of_getElem? (i := 915) (by decide +kernel)
theorem tb_916 : Cond.code yX2_size cX2_size 1 (some .int) ∈ lw_tbl := List.mem_of_getElem? (i := 916) (by decide +kernel)
theorem tb_917 : Cond.methodLink RL 123 yX9_fingerprint ∈ lw_tbl := List.mem_of_getElem? (i := 917) (by decide +kernel)
theorem tb_918 : Cond.instanceMethod yX9_fingerprint ∈ lw_tbl := List.mem_of_getElem? (i := 918) (by decide +kernel)
theorem tb_919 : Cond.selects RX9 yX9_fingerprint yX9_fingerprint ∈ lw_tbl := List.mem_of_getElem? (i := 919) (by decide +kernel)
theorem tb_920 : Cond.code yX9_fingerprint cX9_fingerprint 3 (some .long) ∈ lw_tbl := List.mem_of_getElem? (i := 920) (by decide +kernel)
theorem tb_921 : Cond.constantLong RX9 226 (31) ∈ lw_tbl := List.mem_of_getElem? (i := 921) (by decide +kernel)
theorem tb_922 : Cond.constantLong RX9 228 (2449) ∈ lw_tbl := List.mem_of_getElem? (i := 922) (by decide +kernel)
theorem tb_923 : Cond.methodLink RX9 230 yX6_size ∈ lw_tbl := List.mem_of_getElem? (i := 923) (by decide +kernel)
theorem tb_924 : Cond.methodLink RX9 231 yX6_fold ∈ lw_tbl := List.mem_of_getElem? (i := 924) (by decide +kernel)
theorem tb_925 : Cond.instanceMethod yX6_fold ∈ lw_tbl := List.mem_of_getElem? (i := 925) (by decide +kernel)
theorem tb_926 : Cond.selects RX6 yX6_fold yX6_fold ∈ lw_tbl := List.mem_of_getElem? (i := 926) (by decide +kernel)
theorem tb_927 : Cond.code yX6_fold cX6_fold 7 (some .long) ∈ lw_tbl := List.mem_of_getElem? (i := 927) (by decide +kernel)
theorem tb_928 : Cond.constantLong RX6 65 (31) ∈ lw_tbl := List.mem_of_getElem? (i := 928) (by decide +kernel)
theorem tb_929 : Cond.methodLink RX6 67 yX6_numberOf ∈ lw_tbl := List.mem_of_getElem? (i := 929) (by decide +kernel)
theorem tb_930 : Cond.methodLink RX9 235 yX5_size ∈ lw_tbl := List.mem_of_getElem? (i := 930) (by decide +kernel)
theorem tb_931 : Cond.methodLink RX9 236 yX4_hopLimit ∈ lw_tbl := List.mem_of_getElem? (i := 931) (by decide +kernel)
theorem tb_932 : Cond.methodLink RX9 239 yX4_foldDebts ∈ lw_tbl := List.mem_of_getElem? (i := 932) (by decide +kernel)
theorem tb_933 : Cond.instanceMethod yX4_foldDebts ∈ lw_tbl := List.mem_of_getElem? (i := 933) (by decide +kernel)
theorem tb_934 : Cond.selects RX4 yX4_foldDebts yX4_foldDebts ∈ lw_tbl := List.mem_of_getElem? (i := 934) (by decide +kernel)
theorem tb_935 : Cond.code yX4_foldDebts cX4_foldDebts 7 (some .long) ∈ lw_tbl := List.mem_of_getElem? (i := 935) (by decide +kernel)
theorem tb_936 : Cond.constantLong RX4 154 (31) ∈ lw_tbl := List.mem_of_getElem? (i := 936) (by decide +kernel)
theorem tb_937 : Cond.methodLink RX4 156 yX4_debt ∈ lw_tbl := List.mem_of_getElem? (i := 937) (by decide +kernel)
theorem tb_938 : Cond.classLink RL 10 RX10 ∈ lw_tbl := List.mem_of_getElem? (i := 938) (by decide +kernel)
theorem tb_939 : Cond.instantiable RX10 24 ∈ lw_tbl := List.mem_of_getElem? (i := 939) (by decide +kernel)
theorem tb_940 : Cond.methodLink RL 12 yX10_init ∈ lw_tbl := List.mem_of_getElem? (i := 940) (by decide +kernel)
theorem tb_941 : Cond.instanceMethod yX10_init ∈ lw_tbl := List.mem_of_getElem? (i := 941) (by decide +kernel)
theorem tb_942 : Cond.code yX10_init cX10_init 1 none ∈ lw_tbl := List.mem_of_getElem? (i := 942) (by decide +kernel)
theorem tb_943 : Cond.methodLink RX10 1 objectInit ∈ lw_tbl := List.mem_of_getElem? (i := 943) (by decide +kernel)
theorem tb_944 : Cond.fieldLink RX10 7 "CallRouterModel" "v" "[I" ∈ lw_tbl := List.mem_of_getElem? (i := 944) (by decide +kernel)
theorem tb_945 : Cond.fieldLink RX10 13 "CallRouterModel" "aside" "[I" ∈ lw_tbl := List.mem_of_getElem? (i := 945) (by decide +kernel)
theorem tb_946 : Cond.fieldLink RX10 16 "CallRouterModel" "past" "[I" ∈ lw_tbl := List.mem_of_getElem? (i := 946) (by decide +kernel)
theorem tb_947 : Cond.fieldLink RX10 58 "CallRouterModel" "pastMany" "I" ∈ lw_tbl := List.mem_of_getElem? (i := 947) (by decide +kernel)
theorem tb_948 : Cond.fieldLink RX10 19 "CallRouterModel" "digits" "[I" ∈ lw_tbl := List.mem_of_getElem? (i := 948) (by decide +kernel)
theorem tb_949 : Cond.fieldLink RX10 106 "CallRouterModel" "digitMany" "I" ∈ lw_tbl := List.mem_of_getElem? (i := 949) (by decide +kernel)
theorem tb_950 : Cond.fieldLink RX10 22 "CallRouterModel" "ats" "[I" ∈ lw_tbl := List.mem_of_getElem? (i := 950) (by decide +kernel)
theorem tb_951 : Cond.fieldLink RX10 25 "CallRouterModel" "marks" "[I" ∈ lw_tbl := List.mem_of_getElem? (i := 951) (by decide +kernel)
theorem tb_952 : Cond.fieldLink RX10 28 "CallRouterModel" "lists" "[I" ∈ lw_tbl := List.mem_of_getElem? (i := 952) (by decide +kernel)
theorem tb_953 : Cond.fieldLink RX10 31 "CallRouterModel" "manies" "[I" ∈ lw_tbl := List.mem_of_getElem? (i := 953) (by decide +kernel)
theorem tb_954 : Cond.fieldLink RX10 34 "CallRouterModel" "tries" "[I" ∈ lw_tbl := List.mem_of_getElem? (i := 954) (by decide +kernel)
theorem tb_955 : Cond.fieldLink RX10 37 "CallRouterModel" "own" "[I" ∈ lw_tbl := List.mem_of_getElem? (i := 955) (by decide +kernel)
theorem tb_956 : Cond.fieldLink RX10 119 "CallRouterModel" "depth" "I" ∈ lw_tbl := List.mem_of_getElem? (i := 956) (by decide +kernel)
theorem tb_957 : Cond.fieldLink RX10 40 "CallRouterModel" "attemptRoutes" "[I" ∈ lw_tbl := List.mem_of_getElem? (i := 957) (by decide +kernel)
theorem tb_958 : Cond.fieldLink RX10 43 "CallRouterModel" "attemptCodes" "[I" ∈ lw_tbl := List.mem_of_getElem? (i := 958) (by decide +kernel)
theorem tb_959 : Cond.fieldLink RX10 133 "CallRouterModel" "attemptMany" "I" ∈ lw_tbl := List.mem_of_getElem? (i := 959) (by decide +kernel)
theorem tb_960 : Cond.fieldLink RX10 46 "CallRouterModel" "wayOf" "[I" ∈ lw_tbl := List.mem_of_getElem? (i := 960) (by decide +kernel)
theorem tb_961 : Cond.fieldLink RX10 154 "CallRouterModel" "wayMany" "I" ∈ lw_tbl := List.mem_of_getElem? (i := 961) (by decide +kernel)
theorem tb_962 : Cond.fieldLink RX10 49 "CallRouterModel" "text" "[I" ∈ lw_tbl := List.mem_of_getElem? (i := 962) (by decide +kernel)
theorem tb_963 : Cond.fieldLink RX10 174 "CallRouterModel" "typed" "I" ∈ lw_tbl := List.mem_of_getElem? (i := 963) (by decide +kernel)
theorem tb_964 : Cond.fieldLink RX10 177 "CallRouterModel" "at" "I" ∈ lw_tbl := List.mem_of_getElem? (i := 964) (by decide +kernel)
theorem tb_965 : Cond.fieldLink RX10 183 "CallRouterModel" "commands" "I" ∈ lw_tbl := List.mem_of_getElem? (i := 965) (by decide +kernel)
theorem tb_966 : Cond.fieldLink RX10 52 "CallRouterModel" "kinds" "[I" ∈ lw_tbl := List.mem_of_getElem? (i := 966) (by decide +kernel)
theorem tb_967 : Cond.fieldLink RX10 55 "CallRouterModel" "numbers" "[I" ∈ lw_tbl := List.mem_of_getElem? (i := 967) (by decide +kernel)
theorem tb_1017 : Cond.methodLink RL 17 yX10_addSwitch ∈ lw_tbl := List.mem_of_getElem? (i := 1017) (by decide +kernel)
theorem tb_1018 : Cond.instanceMethod yX10_addSwitch ∈ lw_tbl := List.mem_of_getElem? (i := 1018) (by decide +kernel)
theorem tb_1019 : Cond.selects RX10 yX10_addSwitch yX10_addSwitch ∈ lw_tbl := List.mem_of_getElem? (i := 1019) (by decide +kernel)
theorem tb_1020 : Cond.code yX10_addSwitch cX10_addSwitch 1 (some .int) ∈ lw_tbl := List.mem_of_getElem? (i := 1020) (by decide +kernel)
theorem tb_1021 : Cond.methodLink RX10 62 yX10_keeps ∈ lw_tbl := List.mem_of_getElem? (i := 1021) (by decide +kernel)
theorem tb_1023 : Cond.instanceMethod yX10_keeps ∈ lw_tbl := List.mem_of_getElem? (i := 1023) (by decide +kernel)
theorem tb_1024 : Cond.code yX10_keeps cX10_keeps 3 none ∈ lw_tbl := List.mem_of_getElem? (i := 1024) (by decide +kernel)
theorem tb_1025 : Cond.methodLink RL 22 yX10_setLookup ∈ lw_tbl := List.mem_of_getElem? (i := 1025) (by decide +kernel)
theorem tb_1026 : Cond.instanceMethod yX10_setLookup ∈ lw_tbl := List.mem_of_getElem? (i := 1026) (by decide +kernel)
theorem tb_1027 : Cond.selects RX10 yX10_setLookup yX10_setLookup ∈ lw_tbl := List.mem_of_getElem? (i := 1027) (by decide +kernel)
theorem tb_1028 : Cond.code yX10_setLookup cX10_setLookup 3 (some .int) ∈ lw_tbl := List.mem_of_getElem? (i := 1028) (by decide +kernel)
theorem tb_1029 : Cond.methodLink RX10 79 yX10_isSwitch ∈ lw_tbl := List.mem_of_getElem? (i := 1029) (by decide +kernel)
theorem tb_1031 : Cond.instanceMethod yX10_isSwitch ∈ lw_tbl := List.mem_of_getElem? (i := 1031) (by decide +kernel)
theorem tb_1032 : Cond.code yX10_isSwitch cX10_isSwitch 2 (some .boolean) ∈ lw_tbl := List.mem_of_getElem? (i := 1032) (by decide +kernel)
theorem tb_1033 : Cond.methodLink RX10 66 yX10_in ∈ lw_tbl := List.mem_of_getElem? (i := 1033) (by decide +kernel)
theorem tb_1034 : Cond.static yX10_in ∈ lw_tbl := List.mem_of_getElem? (i := 1034) (by decide +kernel)
theorem tb_1035 : Cond.code yX10_in cX10_in 3 (some .boolean) ∈ lw_tbl := List.mem_of_getElem? (i := 1035) (by decide +kernel)
theorem tb_1036 : Cond.methodLink RX10 82 yX10_sets ∈ lw_tbl := List.mem_of_getElem? (i := 1036) (by decide +kernel)
theorem tb_1038 : Cond.instanceMethod yX10_sets ∈ lw_tbl := List.mem_of_getElem? (i := 1038) (by decide +kernel)
theorem tb_1039 : Cond.code yX10_sets cX10_sets 4 (some .int) ∈ lw_tbl := List.mem_of_getElem? (i := 1039) (by decide +kernel)
theorem tb_1040 : Cond.methodLink RL 27 yX10_setCodes ∈ lw_tbl := List.mem_of_getElem? (i := 1040) (by decide +kernel)
theorem tb_1041 : Cond.instanceMethod yX10_setCodes ∈ lw_tbl := List.mem_of_getElem? (i := 1041) (by decide +kernel)
theorem tb_1042 : Cond.selects RX10 yX10_setCodes yX10_setCodes ∈ lw_tbl := List.mem_of_getElem? (i := 1042) (by decide +kernel)
theorem tb_1043 : Cond.code yX10_setCodes cX10_setCodes 3 (some .int) ∈ lw_tbl := List.mem_of_getElem? (i := 1043) (by decide +kernel)
theorem tb_1044 : Cond.methodLink RL 32 yX10_setLimit ∈ lw_tbl := List.mem_of_getElem? (i := 1044) (by decide +kernel)
theorem tb_1045 : Cond.instanceMethod yX10_setLimit ∈ lw_tbl := List.mem_of_getElem? (i := 1045) (by decide +kernel)
theorem tb_1046 : Cond.selects RX10 yX10_setLimit yX10_setLimit ∈ lw_tbl := List.mem_of_getElem? (i := 1046) (by decide +kernel)
theorem tb_1047 : Cond.code yX10_setLimit cX10_setLimit 2 (some .int) ∈ lw_tbl := List.mem_of_getElem? (i := 1047) (by decide +kernel)
theorem tb_1048 : Cond.methodLink RL 37 yX10_addRoute ∈ lw_tbl := List.mem_of_getElem? (i := 1048) (by decide +kernel)
theorem tb_1049 : Cond.instanceMethod yX10_addRoute ∈ lw_tbl := List.mem_of_getElem? (i := 1049) (by decide +kernel)
theorem tb_1050 : Cond.selects RX10 yX10_addRoute yX10_addRoute ∈ lw_tbl := List.mem_of_getElem? (i := 1050) (by decide +kernel)
theorem tb_1051 : Cond.code yX10_addRoute cX10_addRoute 6 (some .int) ∈ lw_tbl := List.mem_of_getElem? (i := 1051) (by decide +kernel)
theorem tb_1052 : Cond.methodLink RX10 85 yX10_isRoute ∈ lw_tbl := List.mem_of_getElem? (i := 1052) (by decide +kernel)
theorem tb_1054 : Cond.instanceMethod yX10_isRoute ∈ lw_tbl := List.mem_of_getElem? (i := 1054) (by decide +kernel)
theorem tb_1055 : Cond.code yX10_isRoute cX10_isRoute 6 (some .boolean) ∈ lw_tbl := List.mem_of_getElem? (i := 1055) (by decide +kernel)
theorem tb_1056 : Cond.constant RX10 70 (999999999) ∈ lw_tbl := List.mem_of_getElem? (i := 1056) (by decide +kernel)
theorem tb_1057 : Cond.methodLink RX10 89 yX10_routes ∈ lw_tbl := List.mem_of_getElem? (i := 1057) (by decide +kernel)
theorem tb_1059 : Cond.instanceMethod yX10_routes ∈ lw_tbl := List.mem_of_getElem? (i := 1059) (by decide +kernel)
theorem tb_1060 : Cond.code yX10_routes cX10_routes 7 none ∈ lw_tbl := List.mem_of_getElem? (i := 1060) (by decide +kernel)
theorem tb_1061 : Cond.methodLink RL 42 yX10_setCost ∈ lw_tbl := List.mem_of_getElem? (i := 1061) (by decide +kernel)
theorem tb_1062 : Cond.instanceMethod yX10_setCost ∈ lw_tbl := List.mem_of_getElem? (i := 1062) (by decide +kernel)
theorem tb_1063 : Cond.selects RX10 yX10_setCost yX10_setCost ∈ lw_tbl := List.mem_of_getElem? (i := 1063) (by decide +kernel)
theorem tb_1064 : Cond.code yX10_setCost cX10_setCost 4 (some .int) ∈ lw_tbl := List.mem_of_getElem? (i := 1064) (by decide +kernel)
theorem tb_1065 : Cond.methodLink RL 46 yX10_port ∈ lw_tbl := List.mem_of_getElem? (i := 1065) (by decide +kernel)
theorem tb_1066 : Cond.instanceMethod yX10_port ∈ lw_tbl := List.mem_of_getElem? (i := 1066) (by decide +kernel)
theorem tb_1067 : Cond.selects RX10 yX10_port yX10_port ∈ lw_tbl := List.mem_of_getElem? (i := 1067) (by decide +kernel)
theorem tb_1068 : Cond.code yX10_port cX10_port 3 (some .int) ∈ lw_tbl := List.mem_of_getElem? (i := 1068) (by decide +kernel)
theorem tb_1069 : Cond.methodLink RX10 97 yX10_isNumber ∈ lw_tbl := List.mem_of_getElem? (i := 1069) (by decide +kernel)
theorem tb_1070 : Cond.static yX10_isNumber ∈ lw_tbl := List.mem_of_getElem? (i := 1070) (by decide +kernel)
theorem tb_1071 : Cond.code yX10_isNumber cX10_isNumber 1 (some .boolean) ∈ lw_tbl := List.mem_of_getElem? (i := 1071) (by decide +kernel)
theorem tb_1072 : Cond.methodLink RX10 93 yX10_portOf ∈ lw_tbl := List.mem_of_getElem? (i := 1072) (by decide +kernel)
theorem tb_1074 : Cond.instanceMethod yX10_portOf ∈ lw_tbl := List.mem_of_getElem? (i := 1074) (by decide +kernel)
theorem tb_1075 : Cond.code yX10_portOf cX10_portOf 3 (some .int) ∈ lw_tbl := List.mem_of_getElem? (i := 1075) (by decide +kernel)
theorem tb_1076 : Cond.methodLink RX10 100 yX10_ports ∈ lw_tbl := List.mem_of_getElem? (i := 1076) (by decide +kernel)
theorem tb_1078 : Cond.instanceMethod yX10_ports ∈ lw_tbl := List.mem_of_getElem? (i := 1078) (by decide +kernel)
theorem tb_1079 : Cond.code yX10_ports cX10_ports 5 (some .int) ∈ lw_tbl := List.mem_of_getElem? (i := 1079) (by decide +kernel)
theorem tb_1080 : Cond.methodLink RL 50 yX10_unport ∈ lw_tbl := List.mem_of_getElem? (i := 1080) (by decide +kernel)
theorem tb_1081 : Cond.instanceMethod yX10_unport ∈ lw_tbl := List.mem_of_getElem? (i := 1081) (by decide +kernel)
theorem tb_1082 : Cond.selects RX10 yX10_unport yX10_unport ∈ lw_tbl := List.mem_of_getElem? (i := 1082) (by decide +kernel)
theorem tb_1083 : Cond.code yX10_unport cX10_unport 4 (some .int) ∈ lw_tbl := List.mem_of_getElem? (i := 1083) (by decide +kernel)
theorem tb_1084 : Cond.methodLink RL 54 yX10_call ∈ lw_tbl := List.mem_of_getElem? (i := 1084) (by decide +kernel)
theorem tb_1085 : Cond.instanceMethod yX10_call ∈ lw_tbl := List.mem_of_getElem? (i := 1085) (by decide +kernel)
theorem tb_1086 : Cond.selects RX10 yX10_call yX10_call ∈ lw_tbl := List.mem_of_getElem? (i := 1086) (by decide +kernel)
theorem tb_1087 : Cond.code yX10_call cX10_call 7 (some .int) ∈ lw_tbl := List.mem_of_getElem? (i := 1087) (by decide +kernel)
theorem tb_1088 : Cond.methodLink RX10 157 yX10_copies ∈ lw_tbl := List.mem_of_getElem? (i := 1088) (by decide +kernel)
theorem tb_1089 : Cond.static yX10_copies ∈ lw_tbl := List.mem_of_getElem? (i := 1089) (by decide +kernel)
theorem tb_1090 : Cond.code yX10_copies cX10_copies 3 none ∈ lw_tbl := List.mem_of_getElem? (i := 1090) (by decide +kernel)
theorem tb_1091 : Cond.methodLink RX10 161 yX10_places ∈ lw_tbl := List.mem_of_getElem? (i := 1091) (by decide +kernel)
theorem tb_1093 : Cond.instanceMethod yX10_places ∈ lw_tbl := List.mem_of_getElem? (i := 1093) (by decide +kernel)
theorem tb_1094 : Cond.code yX10_places cX10_places 5 (some .int) ∈ lw_tbl := List.mem_of_getElem? (i := 1094) (by decide +kernel)
theorem tb_1095 : Cond.methodLink RX10 139 yX10_arrives ∈ lw_tbl := List.mem_of_getElem? (i := 1095) (by decide +kernel)
theorem tb_1097 : Cond.instanceMethod yX10_arrives ∈ lw_tbl := List.mem_of_getElem? (i := 1097) (by decide +kernel)
theorem tb_1098 : Cond.code yX10_arrives cX10_arrives 8 (some .int) ∈ lw_tbl := List.mem_of_getElem? (i := 1098) (by decide +kernel)
theorem tb_1099 : Cond.methodLink RX10 122 yX10_dials ∈ lw_tbl := List.mem_of_getElem? (i := 1099) (by decide +kernel)
theorem tb_1101 : Cond.instanceMethod yX10_dials ∈ lw_tbl := List.mem_of_getElem? (i := 1101) (by decide +kernel)
theorem tb_1102 : Cond.code yX10_dials cX10_dials 3 none ∈ lw_tbl := List.mem_of_getElem? (i := 1102) (by decide +kernel)
theorem tb_1103 : Cond.methodLink RX10 109 yX10_spells ∈ lw_tbl := List.mem_of_getElem? (i := 1103) (by decide +kernel)
theorem tb_1105 : Cond.instanceMethod yX10_spells ∈ lw_tbl := List.mem_of_getElem? (i := 1105) (by decide +kernel)
theorem tb_1106 : Cond.code yX10_spells cX10_spells 5 none ∈ lw_tbl := List.mem_of_getElem? (i := 1106) (by decide +kernel)
theorem tb_1107 : Cond.methodLink RX10 103 yX10_lengthOf ∈ lw_tbl := List.mem_of_getElem? (i := 1107) (by decide +kernel)
theorem tb_1108 : Cond.static yX10_lengthOf ∈ lw_tbl := List.mem_of_getElem? (i := 1108) (by decide +kernel)
theorem tb_1109 : Cond.code yX10_lengthOf cX10_lengthOf 3 (some .int) ∈ lw_tbl := List.mem_of_getElem? (i := 1109) (by decide +kernel)
theorem tb_1110 : Cond.methodLink RX10 126 yX10_gathers ∈ lw_tbl := List.mem_of_getElem? (i := 1110) (by decide +kernel)
theorem tb_1112 : Cond.instanceMethod yX10_gathers ∈ lw_tbl := List.mem_of_getElem? (i := 1112) (by decide +kernel)
theorem tb_1113 : Cond.code yX10_gathers cX10_gathers 8 (some .int) ∈ lw_tbl := List.mem_of_getElem? (i := 1113) (by decide +kernel)
theorem tb_1114 : Cond.methodLink RX10 71 yX10_of ∈ lw_tbl := List.mem_of_getElem? (i := 1114) (by decide +kernel)
theorem tb_1116 : Cond.instanceMethod yX10_of ∈ lw_tbl := List.mem_of_getElem? (i := 1116) (by decide +kernel)
theorem tb_1117 : Cond.code yX10_of cX10_of 3 (some .int) ∈ lw_tbl := List.mem_of_getElem? (i := 1117) (by decide +kernel)
theorem tb_1118 : Cond.methodLink RX10 113 yX10_begins ∈ lw_tbl := List.mem_of_getElem? (i := 1118) (by decide +kernel)
theorem tb_1120 : Cond.instanceMethod yX10_begins ∈ lw_tbl := List.mem_of_getElem? (i := 1120) (by decide +kernel)
theorem tb_1121 : Cond.code yX10_begins cX10_begins 6 (some .boolean) ∈ lw_tbl := List.mem_of_getElem? (i := 1121) (by decide +kernel)
theorem tb_1122 : Cond.methodLink RX10 116 yX10_bandOf ∈ lw_tbl := List.mem_of_getElem? (i := 1122) (by decide +kernel)
theorem tb_1124 : Cond.instanceMethod yX10_bandOf ∈ lw_tbl := List.mem_of_getElem? (i := 1124) (by decide +kernel)
theorem tb_1125 : Cond.code yX10_bandOf cX10_bandOf 3 (some .int) ∈ lw_tbl := List.mem_of_getElem? (i := 1125) (by decide +kernel)
theorem tb_1126 : Cond.methodLink RX10 136 yX10_isBusy ∈ lw_tbl := List.mem_of_getElem? (i := 1126) (by decide +kernel)
theorem tb_1128 : Cond.instanceMethod yX10_isBusy ∈ lw_tbl := List.mem_of_getElem? (i := 1128) (by decide +kernel)
theorem tb_1129 : Cond.code yX10_isBusy cX10_isBusy 4 (some .boolean) ∈ lw_tbl := List.mem_of_getElem? (i := 1129) (by decide +kernel)
theorem tb_1130 : Cond.methodLink RX10 143 yX10_tries ∈ lw_tbl := List.mem_of_getElem? (i := 1130) (by decide +kernel)
theorem tb_1132 : Cond.instanceMethod yX10_tries ∈ lw_tbl := List.mem_of_getElem? (i := 1132) (by decide +kernel)
theorem tb_1133 : Cond.code yX10_tries cX10_tries 5 (some .int) ∈ lw_tbl := List.mem_of_getElem? (i := 1133) (by decide +kernel)
theorem tb_1134 : Cond.methodLink RX10 129 yX10_atHand ∈ lw_tbl := List.mem_of_getElem? (i := 1134) (by decide +kernel)
theorem tb_1136 : Cond.instanceMethod yX10_atHand ∈ lw_tbl := List.mem_of_getElem? (i := 1136) (by decide +kernel)
theorem tb_1137 : Cond.code yX10_atHand cX10_atHand 1 (some .int) ∈ lw_tbl := List.mem_of_getElem? (i := 1137) (by decide +kernel)
theorem tb_1138 : Cond.methodLink RX10 75 yX10_serves ∈ lw_tbl := List.mem_of_getElem? (i := 1138) (by decide +kernel)
theorem tb_1140 : Cond.instanceMethod yX10_serves ∈ lw_tbl := List.mem_of_getElem? (i := 1140) (by decide +kernel)
theorem tb_1141 : Cond.code yX10_serves cX10_serves 2 (some .boolean) ∈ lw_tbl := List.mem_of_getElem? (i := 1141) (by decide +kernel)
theorem tb_1142 : Cond.methodLink RX10 145 yX10_leaves ∈ lw_tbl := List.mem_of_getElem? (i := 1142) (by decide +kernel)
theorem tb_1144 : Cond.instanceMethod yX10_leaves ∈ lw_tbl := List.mem_of_getElem? (i := 1144) (by decide +kernel)
theorem tb_1145 : Cond.code yX10_leaves cX10_leaves 2 none ∈ lw_tbl := List.mem_of_getElem? (i := 1145) (by decide +kernel)
theorem tb_1146 : Cond.methodLink RX10 148 yX10_settles ∈ lw_tbl := List.mem_of_getElem? (i := 1146) (by decide +kernel)
theorem tb_1148 : Cond.instanceMethod yX10_settles ∈ lw_tbl := List.mem_of_getElem? (i := 1148) (by decide +kernel)
theorem tb_1149 : Cond.code yX10_settles cX10_settles 4 (some .int) ∈ lw_tbl := List.mem_of_getElem? (i := 1149) (by decide +kernel)
theorem tb_1150 : Cond.methodLink RX10 151 yX10_connects ∈ lw_tbl := List.mem_of_getElem? (i := 1150) (by decide +kernel)
theorem tb_1152 : Cond.instanceMethod yX10_connects ∈ lw_tbl := List.mem_of_getElem? (i := 1152) (by decide +kernel)
theorem tb_1153 : Cond.code yX10_connects cX10_connects 2 none ∈ lw_tbl := List.mem_of_getElem? (i := 1153) (by decide +kernel)
theorem tb_1154 : Cond.methodLink RL 58 yX10_end ∈ lw_tbl := List.mem_of_getElem? (i := 1154) (by decide +kernel)
theorem tb_1155 : Cond.instanceMethod yX10_end ∈ lw_tbl := List.mem_of_getElem? (i := 1155) (by decide +kernel)
theorem tb_1156 : Cond.selects RX10 yX10_end yX10_end ∈ lw_tbl := List.mem_of_getElem? (i := 1156) (by decide +kernel)
theorem tb_1157 : Cond.code yX10_end cX10_end 8 (some .int) ∈ lw_tbl := List.mem_of_getElem? (i := 1157) (by decide +kernel)
theorem tb_1158 : Cond.methodLink RX10 164 yX10_isCall ∈ lw_tbl := List.mem_of_getElem? (i := 1158) (by decide +kernel)
theorem tb_1160 : Cond.instanceMethod yX10_isCall ∈ lw_tbl := List.mem_of_getElem? (i := 1160) (by decide +kernel)
theorem tb_1161 : Cond.code yX10_isCall cX10_isCall 2 (some .boolean) ∈ lw_tbl := List.mem_of_getElem? (i := 1161) (by decide +kernel)
theorem tb_1162 : Cond.methodLink RX10 167 yX10_costOf ∈ lw_tbl := List.mem_of_getElem? (i := 1162) (by decide +kernel)
theorem tb_1164 : Cond.instanceMethod yX10_costOf ∈ lw_tbl := List.mem_of_getElem? (i := 1164) (by decide +kernel)
theorem tb_1165 : Cond.code yX10_costOf cX10_costOf 3 (some .int) ∈ lw_tbl := List.mem_of_getElem? (i := 1165) (by decide +kernel)
theorem tb_1166 : Cond.methodLink RL 62 yX10_pass ∈ lw_tbl := List.mem_of_getElem? (i := 1166) (by decide +kernel)
theorem tb_1167 : Cond.instanceMethod yX10_pass ∈ lw_tbl := List.mem_of_getElem? (i := 1167) (by decide +kernel)
theorem tb_1168 : Cond.selects RX10 yX10_pass yX10_pass ∈ lw_tbl := List.mem_of_getElem? (i := 1168) (by decide +kernel)
theorem tb_1169 : Cond.code yX10_pass cX10_pass 2 (some .int) ∈ lw_tbl := List.mem_of_getElem? (i := 1169) (by decide +kernel)
theorem tb_1170 : Cond.constant RX10 170 (1000000) ∈ lw_tbl := List.mem_of_getElem? (i := 1170) (by decide +kernel)
theorem tb_1171 : Cond.methodLink RL 66 yX10_time ∈ lw_tbl := List.mem_of_getElem? (i := 1171) (by decide +kernel)
theorem tb_1172 : Cond.instanceMethod yX10_time ∈ lw_tbl := List.mem_of_getElem? (i := 1172) (by decide +kernel)
theorem tb_1173 : Cond.selects RX10 yX10_time yX10_time ∈ lw_tbl := List.mem_of_getElem? (i := 1173) (by decide +kernel)
theorem tb_1174 : Cond.code yX10_time cX10_time 1 (some .int) ∈ lw_tbl := List.mem_of_getElem? (i := 1174) (by decide +kernel)
theorem tb_1175 : Cond.methodLink RL 70 yX10_band ∈ lw_tbl := List.mem_of_getElem? (i := 1175) (by decide +kernel)
theorem tb_1176 : Cond.instanceMethod yX10_band ∈ lw_tbl := List.mem_of_getElem? (i := 1176) (by decide +kernel)
theorem tb_1177 : Cond.selects RX10 yX10_band yX10_band ∈ lw_tbl := List.mem_of_getElem? (i := 1177) (by decide +kernel)
theorem tb_1178 : Cond.code yX10_band cX10_band 1 (some .int) ∈ lw_tbl := List.mem_of_getElem? (i := 1178) (by decide +kernel)
theorem tb_1179 : Cond.methodLink RL 74 yX10_route ∈ lw_tbl := List.mem_of_getElem? (i := 1179) (by decide +kernel)
theorem tb_1180 : Cond.instanceMethod yX10_route ∈ lw_tbl := List.mem_of_getElem? (i := 1180) (by decide +kernel)
theorem tb_1181 : Cond.selects RX10 yX10_route yX10_route ∈ lw_tbl := List.mem_of_getElem? (i := 1181) (by decide +kernel)
theorem tb_1182 : Cond.code yX10_route cX10_route 3 (some .int) ∈ lw_tbl := List.mem_of_getElem? (i := 1182) (by decide +kernel)
theorem tb_1183 : Cond.methodLink RL 78 yX10_choice ∈ lw_tbl := List.mem_of_getElem? (i := 1183) (by decide +kernel)
theorem tb_1184 : Cond.instanceMethod yX10_choice ∈ lw_tbl := List.mem_of_getElem? (i := 1184) (by decide +kernel)
theorem tb_1185 : Cond.selects RX10 yX10_choice yX10_choice ∈ lw_tbl := List.mem_of_getElem? (i := 1185) (by decide +kernel)
theorem tb_1186 : Cond.code yX10_choice cX10_choice 5 (some .int) ∈ lw_tbl := List.mem_of_getElem? (i := 1186) (by decide +kernel)
theorem tb_1187 : Cond.methodLink RL 82 yX10_calls ∈ lw_tbl := List.mem_of_getElem? (i := 1187) (by decide +kernel)
theorem tb_1188 : Cond.instanceMethod yX10_calls ∈ lw_tbl := List.mem_of_getElem? (i := 1188) (by decide +kernel)
theorem tb_1189 : Cond.selects RX10 yX10_calls yX10_calls ∈ lw_tbl := List.mem_of_getElem? (i := 1189) (by decide +kernel)
theorem tb_1190 : Cond.code yX10_calls cX10_calls 1 (some .int) ∈ lw_tbl := List.mem_of_getElem? (i := 1190) (by decide +kernel)
theorem tb_1191 : Cond.methodLink RL 86 yX10_way ∈ lw_tbl := List.mem_of_getElem? (i := 1191) (by decide +kernel)
theorem tb_1192 : Cond.instanceMethod yX10_way ∈ lw_tbl := List.mem_of_getElem? (i := 1192) (by decide +kernel)
theorem tb_1193 : Cond.selects RX10 yX10_way yX10_way ∈ lw_tbl := List.mem_of_getElem? (i := 1193) (by decide +kernel)
theorem tb_1194 : Cond.code yX10_way cX10_way 4 (some .int) ∈ lw_tbl := List.mem_of_getElem? (i := 1194) (by decide +kernel)
theorem tb_1195 : Cond.methodLink RL 90 yX10_called ∈ lw_tbl := List.mem_of_getElem? (i := 1195) (by decide +kernel)
theorem tb_1196 : Cond.instanceMethod yX10_called ∈ lw_tbl := List.mem_of_getElem? (i := 1196) (by decide +kernel)
theorem tb_1197 : Cond.selects RX10 yX10_called yX10_called ∈ lw_tbl := List.mem_of_getElem? (i := 1197) (by decide +kernel)
theorem tb_1198 : Cond.code yX10_called cX10_called 2 (some .int) ∈ lw_tbl := List.mem_of_getElem? (i := 1198) (by decide +kernel)
theorem tb_1199 : Cond.methodLink RL 94 yX10_owes ∈ lw_tbl := List.mem_of_getElem? (i := 1199) (by decide +kernel)
theorem tb_1200 : Cond.instanceMethod yX10_owes ∈ lw_tbl := List.mem_of_getElem? (i := 1200) (by decide +kernel)
theorem tb_1201 : Cond.selects RX10 yX10_owes yX10_owes ∈ lw_tbl := List.mem_of_getElem? (i := 1201) (by decide +kernel)
theorem tb_1202 : Cond.code yX10_owes cX10_owes 3 (some .int) ∈ lw_tbl := List.mem_of_getElem? (i := 1202) (by decide +kernel)
theorem tb_1203 : Cond.methodLink RL 98 yX10_attempts ∈ lw_tbl := List.mem_of_getElem? (i := 1203) (by decide +kernel)
theorem tb_1204 : Cond.instanceMethod yX10_attempts ∈ lw_tbl := List.mem_of_getElem? (i := 1204) (by decide +kernel)
theorem tb_1205 : Cond.selects RX10 yX10_attempts yX10_attempts ∈ lw_tbl := List.mem_of_getElem? (i := 1205) (by decide +kernel)
theorem tb_1206 : Cond.code yX10_attempts cX10_attempts 1 (some .int) ∈ lw_tbl := List.mem_of_getElem? (i := 1206) (by decide +kernel)
theorem tb_1207 : Cond.methodLink RL 102 yX10_attempt ∈ lw_tbl := List.mem_of_getElem? (i := 1207) (by decide +kernel)
theorem tb_1208 : Cond.instanceMethod yX10_attempt ∈ lw_tbl := List.mem_of_getElem? (i := 1208) (by decide +kernel)
theorem tb_1209 : Cond.selects RX10 yX10_attempt yX10_attempt ∈ lw_tbl := List.mem_of_getElem? (i := 1209) (by decide +kernel)
theorem tb_1210 : Cond.code yX10_attempt cX10_attempt 3 (some .int) ∈ lw_tbl := List.mem_of_getElem? (i := 1210) (by decide +kernel)
theorem tb_1211 : Cond.methodLink RL 106 yX10_cheapest ∈ lw_tbl := List.mem_of_getElem? (i := 1211) (by decide +kernel)
theorem tb_1212 : Cond.instanceMethod yX10_cheapest ∈ lw_tbl := List.mem_of_getElem? (i := 1212) (by decide +kernel)
theorem tb_1213 : Cond.selects RX10 yX10_cheapest yX10_cheapest ∈ lw_tbl := List.mem_of_getElem? (i := 1213) (by decide +kernel)
theorem tb_1214 : Cond.code yX10_cheapest cX10_cheapest 9 (some .int) ∈ lw_tbl := List.mem_of_getElem? (i := 1214) (by decide +kernel)
theorem tb_1215 : Cond.methodLink RX10 171 yX10_costsTo ∈ lw_tbl := List.mem_of_getElem? (i := 1215) (by decide +kernel)
theorem tb_1217 : Cond.instanceMethod yX10_costsTo ∈ lw_tbl := List.mem_of_getElem? (i := 1217) (by decide +kernel)
theorem tb_1218 : Cond.code yX10_costsTo cX10_costsTo 5 (some .int) ∈ lw_tbl := List.mem_of_getElem? (i := 1218) (by decide +kernel)
theorem tb_1219 : Cond.methodLink RL 110 yX10_type ∈ lw_tbl := List.mem_of_getElem? (i := 1219) (by decide +kernel)
theorem tb_1220 : Cond.instanceMethod yX10_type ∈ lw_tbl := List.mem_of_getElem? (i := 1220) (by decide +kernel)
theorem tb_1221 : Cond.selects RX10 yX10_type yX10_type ∈ lw_tbl := List.mem_of_getElem? (i := 1221) (by decide +kernel)
theorem tb_1222 : Cond.code yX10_type cX10_type 2 (some .int) ∈ lw_tbl := List.mem_of_getElem? (i := 1222) (by decide +kernel)
theorem tb_1223 : Cond.methodLink RL 114 yX10_clear ∈ lw_tbl := List.mem_of_getElem? (i := 1223) (by decide +kernel)
theorem tb_1224 : Cond.instanceMethod yX10_clear ∈ lw_tbl := List.mem_of_getElem? (i := 1224) (by decide +kernel)
theorem tb_1225 : Cond.selects RX10 yX10_clear yX10_clear ∈ lw_tbl := List.mem_of_getElem? (i := 1225) (by decide +kernel)
theorem tb_1226 : Cond.code yX10_clear cX10_clear 2 (some .int) ∈ lw_tbl := List.mem_of_getElem? (i := 1226) (by decide +kernel)
theorem tb_1227 : Cond.methodLink RL 118 yX10_run ∈ lw_tbl := List.mem_of_getElem? (i := 1227) (by decide +kernel)
theorem tb_1228 : Cond.instanceMethod yX10_run ∈ lw_tbl := List.mem_of_getElem? (i := 1228) (by decide +kernel)
theorem tb_1229 : Cond.selects RX10 yX10_run yX10_run ∈ lw_tbl := List.mem_of_getElem? (i := 1229) (by decide +kernel)
theorem tb_1230 : Cond.code yX10_run cX10_run 2 (some .int) ∈ lw_tbl := List.mem_of_getElem? (i := 1230) (by decide +kernel)
theorem tb_1231 : Cond.methodLink RX10 200 yX10_readsText ∈ lw_tbl := List.mem_of_getElem? (i := 1231) (by decide +kernel)
theorem tb_1233 : Cond.instanceMethod yX10_readsText ∈ lw_tbl := List.mem_of_getElem? (i := 1233) (by decide +kernel)
theorem tb_1234 : Cond.code yX10_readsText cX10_readsText 2 (some .boolean) ∈ lw_tbl := List.mem_of_getElem? (i := 1234) (by decide +kernel)
theorem tb_1235 : Cond.methodLink RX10 193 yX10_readsCommand ∈ lw_tbl := List.mem_of_getElem? (i := 1235) (by decide +kernel)
theorem tb_1237 : Cond.instanceMethod yX10_readsCommand ∈ lw_tbl := List.mem_of_getElem? (i := 1237) (by decide +kernel)
theorem tb_1238 : Cond.code yX10_readsCommand cX10_readsCommand 3 (some .boolean) ∈ lw_tbl := List.mem_of_getElem? (i := 1238) (by decide +kernel)
theorem tb_1239 : Cond.methodLink RX10 180 yX10_sign ∈ lw_tbl := List.mem_of_getElem? (i := 1239) (by decide +kernel)
theorem tb_1241 : Cond.instanceMethod yX10_sign ∈ lw_tbl := List.mem_of_getElem? (i := 1241) (by decide +kernel)
theorem tb_1242 : Cond.code yX10_sign cX10_sign 1 (some .int) ∈ lw_tbl := List.mem_of_getElem? (i := 1242) (by decide +kernel)
theorem tb_1243 : Cond.methodLink RX10 186 yX10_reads ∈ lw_tbl := List.mem_of_getElem? (i := 1243) (by decide +kernel)
theorem tb_1245 : Cond.instanceMethod yX10_reads ∈ lw_tbl := List.mem_of_getElem? (i := 1245) (by decide +kernel)
theorem tb_1246 : Cond.code yX10_reads cX10_reads 7 (some .boolean) ∈ lw_tbl := List.mem_of_getElem? (i := 1246) (by decide +kernel)
theorem tb_1247 : Cond.methodLink RX10 190 yX10_takes ∈ lw_tbl := List.mem_of_getElem? (i := 1247) (by decide +kernel)
theorem tb_1249 : Cond.instanceMethod yX10_takes ∈ lw_tbl := List.mem_of_getElem? (i := 1249) (by decide +kernel)
theorem tb_1250 : Cond.code yX10_takes cX10_takes 3 (some .boolean) ∈ lw_tbl := List.mem_of_getElem? (i := 1250) (by decide +kernel)
theorem tb_1251 : Cond.methodLink RX10 203 yX10_does ∈ lw_tbl := List.mem_of_getElem? (i := 1251) (by decide +kernel)
theorem tb_1253 : Cond.instanceMethod yX10_does ∈ lw_tbl := List.mem_of_getElem? (i := 1253) (by decide +kernel)
theorem tb_1254 : Cond.code yX10_does cX10_does 6 (some .boolean) ∈ lw_tbl := List.mem_of_getElem? (i := 1254) (by decide +kernel)
theorem tb_1255 : Cond.methodLink RX10 197 yX10_num ∈ lw_tbl := List.mem_of_getElem? (i := 1255) (by decide +kernel)
theorem tb_1257 : Cond.instanceMethod yX10_num ∈ lw_tbl := List.mem_of_getElem? (i := 1257) (by decide +kernel)
theorem tb_1258 : Cond.code yX10_num cX10_num 3 (some .int) ∈ lw_tbl := List.mem_of_getElem? (i := 1258) (by decide +kernel)
theorem tb_1259 : Cond.methodLink RL 122 yX10_undo ∈ lw_tbl := List.mem_of_getElem? (i := 1259) (by decide +kernel)
theorem tb_1260 : Cond.instanceMethod yX10_undo ∈ lw_tbl := List.mem_of_getElem? (i := 1260) (by decide +kernel)
theorem tb_1261 : Cond.selects RX10 yX10_undo yX10_undo ∈ lw_tbl := List.mem_of_getElem? (i := 1261) (by decide +kernel)
theorem tb_1262 : Cond.code yX10_undo cX10_undo 2 (some .int) ∈ lw_tbl := List.mem_of_getElem? (i := 1262) (by decide +kernel)
theorem tb_1263 : Cond.methodLink RL 127 yX10_fingerprint ∈ lw_tbl := List.mem_of_getElem? (i := 1263) (by decide +kernel)
theorem tb_1264 : Cond.instanceMethod yX10_fingerprint ∈ lw_tbl := List.mem_of_getElem? (i := 1264) (by decide +kernel)
theorem tb_1265 : Cond.selects RX10 yX10_fingerprint yX10_fingerprint ∈ lw_tbl := List.mem_of_getElem? (i := 1265) (by decide +kernel)
theorem tb_1266 : Cond.code yX10_fingerprint cX10_fingerprint 5 (some .long) ∈ lw_tbl := List.mem_of_getElem? (i := 1266) (by decide +kernel)
theorem tb_1267 : Cond.constantLong RX10 206 (31) ∈ lw_tbl := List.mem_of_getElem? (i := 1267) (by decide +kernel)
theorem tb_1268 : Cond.constantLong RX10 208 (2449) ∈ lw_tbl := List.mem_of_getElem? (i := 1268) (by decide +kernel)
theorem inX0 : ∀ w ∈ u_ws RX0 TX0 5, w ∈ gwl := fun w h => gw_in (mem_of_pos [141, 143, 145, 147, 149] (by decide +kernel) w h) (List.all_eq_true.mp (show (u_ws RX0 TX0 5).all goodWord = true by decide +kernel) w h)
theorem inX1 : ∀ w ∈ u_ws RX1 TX1 4, w ∈ gwl := fun w h => gw_in (mem_of_pos [289, 291, 293, 295] (by decide +kernel) w h) (List.all_eq_true.mp (show (u_ws RX1 TX1 4).all goodWord = true by decide +kernel) w h)
theorem inX2 : ∀ w ∈ u_ws RX2 TX2 3, w ∈ gwl := fun w h => gw_in (mem_of_pos [192, 194, 196] (by decide +kernel) w h) (List.all_eq_true.mp (show (u_ws RX2 TX2 3).all goodWord = true by decide +kernel) w h)
theorem inX3 : ∀ w ∈ u_ws RX3 TX3 6, w ∈ gwl := fun w h => gw_in (mem_of_pos [265, 267, 269, 271, 273, 275] (by decide +kernel) w h) (List.all_eq_true.mp (show (u_ws RX3 TX3 6).all goodWord = true by decide +kernel) w h)
theorem inX4 : ∀ w ∈ u_ws RX4 TX4 9, w ∈ gwl := fun w h => gw_in (mem_of_pos [161, 163, 165, 167, 169, 171, 173, 175, 177] (by decide +kernel) w h) (List.all_eq_true.mp (show (u_ws RX4 TX4 9).all goodWord = true by decide +kernel) w h)
theorem inX5 : ∀ w ∈ u_ws RX5 TX5 3, w ∈ gwl := fun w h => gw_in (mem_of_pos [123, 125, 127] (by decide +kernel) w h) (List.all_eq_true.mp (show (u_ws RX5 TX5 3).all goodWord = true by decide +kernel) w h)
theorem inX6 : ∀ w ∈ u_ws RX6 TX6 7, w ∈ gwl := fun w h => gw_in (mem_of_pos [98, 100, 102, 104, 106, 108, 110] (by decide +kernel) w h) (List.all_eq_true.mp (show (u_ws RX6 TX6 7).all goodWord = true by decide +kernel) w h)
theorem inX7 : ∀ w ∈ u_ws RX7 TX7 10, w ∈ gwl := fun w h => gw_in (mem_of_pos [215, 217, 219, 221, 223, 225, 227, 229, 231, 233] (by decide +kernel) w h) (List.all_eq_true.mp (show (u_ws RX7 TX7 10).all goodWord = true by decide +kernel) w h)
theorem inX8 : ∀ w ∈ u_ws RX8 TX8 3, w ∈ gwl := fun w h => gw_in (mem_of_pos [252, 254, 256] (by decide +kernel) w h) (List.all_eq_true.mp (show (u_ws RX8 TX8 3).all goodWord = true by decide +kernel) w h)
theorem inX9 : ∀ w ∈ u_ws RX9 TX9 6, w ∈ gwl := fun w h => gw_in (mem_of_pos [304, 306, 308, 310, 312, 314] (by decide +kernel) w h) (List.all_eq_true.mp (show (u_ws RX9 TX9 6).all goodWord = true by decide +kernel) w h)
theorem inX10 : ∀ w ∈ u_ws RX10 TX10 24, w ∈ gwl := fun w h => gw_in (mem_of_pos [968, 970, 972, 974, 976, 978, 980, 982, 984, 986, 988, 990, 992, 994, 996, 998, 1000, 1002, 1004, 1006, 1008, 1010, 1012, 1014] (by decide +kernel) w h) (List.all_eq_true.mp (show (u_ws RX10 TX10 24).all goodWord = true by decide +kernel) w h)
end
section
abbrev Wd : Type := Nat → Nat → Nat → Int32
/-- addresses by group and cell; the classes' places; the array classes of int, char, Network -/
abbrev En : Type := (Nat → Nat → Nat) × va_G × ClassId × ClassId × ClassId
def wr (w : Wd) (g c : Nat) (r : Nat → Int32) : Wd := fun g' c' => if g' = g ∧ c' = c then r else w g' c'
def wup (w : Wd) (g c i : Nat) (v : Int32) : Wd := wr w g c (upd (w g c) i v)
def wcp (w : Wd) (g0 c0 g c sp dp n : Nat) : Wd := wr w g c (va_cpy (w g0 c0) (w g c) sp dp n)
def letw {β : Type} (a : Wd) (k : Wd → β) : β := k a
def leti {β : Type} (a : Int32) (k : Int32 → β) : β := k a
def letl {β : Type} (a : Int64) (k : Int64 → β) : β := k a
def ib (i : Int32) (n : Nat) : Bool := decide (¬ (i < 0 ∨ n ≤ i.toNatClampNeg))
theorem ib_in {i : Int32} {n : Nat} (h : ib i n = true) : vp_in i n := of_decide_eq_true (p := ¬ (i < 0 ∨ n ≤ i.toNatClampNeg)) h
def celN (E : En) (g : Nat) (r : Nat → Int32) : Nat → va_E
  | 0 => .inr (4, [.ref (E.1 g 1), .ref (E.1 g 2), .ref (E.1 g 3), .ref (E.1 g 10), .ref (E.1 g 13), .int (r 5), .int (r 6), .int (r 7), .int (r 8)])
  | 1 => .inl (E.2.2.1, 8, .inl r)
  | 2 => .inl (E.2.2.1, 64, .inl r)
  | 3 => .inr (6, [.ref (E.1 g 4), .ref (E.1 g 5), .ref (E.1 g 6), .ref (E.1 g 7), .ref (E.1 g 8), .ref (E.1 g 9), .int (r 6)])
  | 4 => .inl (E.2.2.1, 40, .inl r)
  | 5 => .inl (E.2.2.1, 40, .inl r)
  | 6 => .inl (E.2.2.1, 40, .inl r)
  | 7 => .inl (E.2.2.1, 120, .inl r)
  | 8 => .inl (E.2.2.1, 40, .inl r)
  | 9 => .inl (E.2.2.1, 40, .inl r)
  | 10 => .inr (5, [.ref (E.1 g 11), .ref (E.1 g 12), .int (r 2)])
  | 11 => .inl (E.2.2.1, 30, .inl r)
  | 12 => .inl (E.2.2.1, 30, .inl r)
  | 13 => .inr (0, [.ref (E.1 g 14), .ref (E.1 g 15), .ref (E.1 g 16), .ref (E.1 g 17), .int (r 4)])
  | 14 => .inl (E.2.2.1, 10, .inl r)
  | 15 => .inl (E.2.2.1, 10, .inl r)
  | 16 => .inl (E.2.2.1, 10, .inl r)
  | _ => .inl (E.2.2.1, 60, .inl r)
def celX (E : En) (r : Nat → Int32) : Nat → va_E
  | 0 => .inr (9, [.ref (E.1 0 0), .ref (E.1 1 0), .ref (E.1 7 1), .ref (E.1 7 3), .ref (E.1 7 11), .ref (E.1 7 16)])
  | 1 => .inr (2, [.ref (E.1 7 2), .int (r 1), .int (r 2)])
  | 2 => .inl (E.2.2.2.2, 5, .inr (.inr (.inr (.inr (fun j => some (E.1 (2 + j) 0))))))
  | 3 => .inr (7, [.ref (E.1 7 4), .ref (E.1 7 5), .ref (E.1 7 6), .ref (E.1 7 7), .ref (E.1 7 8), .ref (E.1 7 9), .ref (E.1 7 10), .int (r 7), .int (r 8), .int (r 9)])
  | 4 => .inl (E.2.2.2.1, 80, .inl r)
  | 5 => .inl (E.2.2.2.1, 27, .inl r)
  | 6 => .inl (E.2.2.1, 27, .inl r)
  | 7 => .inl (E.2.2.1, 27, .inl r)
  | 8 => .inl (E.2.2.1, 27, .inl r)
  | 9 => .inl (E.2.2.1, 27, .inl r)
  | 10 => .inl (E.2.2.1, 27, .inl r)
  | 11 => .inr (3, [.ref (E.1 7 12), .ref (E.1 7 15), .int (r 2), .int (r 3), .int (r 4), .int (r 5)])
  | 12 => .inr (8, [.ref (E.1 7 13), .ref (E.1 7 14), .int (r 2)])
  | 13 => .inl (E.2.2.1, 30, .inl r)
  | 14 => .inl (E.2.2.1, 30, .inl r)
  | 15 => .inl (E.2.2.1, 6, .inl r)
  | 16 => .inr (1, [.ref (E.1 7 17), .ref (E.1 7 18), .int (r 2), .int (r 3)])
  | 17 => .inl (E.2.2.1, 64, .inl r)
  | _ => .inl (E.2.2.1, 64, .inl r)
def celM (E : En) (r : Nat → Int32) : Nat → va_E
  | 0 => .inr (10, [.ref (E.1 8 1), .ref (E.1 8 2), .ref (E.1 8 3), .int (r 3), .ref (E.1 8 4), .int (r 5), .ref (E.1 8 5), .ref (E.1 8 6), .ref (E.1 8 7), .ref (E.1 8 8), .ref (E.1 8 9), .ref (E.1 8 10), .int (r 12), .ref (E.1 8 11), .ref (E.1 8 12), .int (r 15), .ref (E.1 8 13), .int (r 17), .ref (E.1 8 14), .int (r 19), .int (r 20), .int (r 21), .ref (E.1 8 15), .ref (E.1 8 16)])
  | 1 => .inl (E.2.2.1, 640, .inl r)
  | 2 => .inl (E.2.2.1, 640, .inl r)
  | 3 => .inl (E.2.2.1, 3200, .inl r)
  | 4 => .inl (E.2.2.1, 14, .inl r)
  | 5 => .inl (E.2.2.1, 8, .inl r)
  | 6 => .inl (E.2.2.1, 8, .inl r)
  | 7 => .inl (E.2.2.1, 320, .inl r)
  | 8 => .inl (E.2.2.1, 8, .inl r)
  | 9 => .inl (E.2.2.1, 8, .inl r)
  | 10 => .inl (E.2.2.1, 8, .inl r)
  | 11 => .inl (E.2.2.1, 30, .inl r)
  | 12 => .inl (E.2.2.1, 30, .inl r)
  | 13 => .inl (E.2.2.1, 8, .inl r)
  | 14 => .inl (E.2.2.1, 80, .inl r)
  | 15 => .inl (E.2.2.1, 80, .inl r)
  | _ => .inl (E.2.2.1, 400, .inl r)
def celR (E : En) (g c : Nat) (r : Nat → Int32) : va_E := if g < 7 then celN E g r c else if g = 7 then celX E r c else celM E r c
def ids : List (Nat × Nat) := (List.range 7).flatMap (fun g => (List.range 18).map (fun c => (g, c))) ++ ((List.range 19).map (fun c => (7, c)) ++ (List.range 17).map (fun c => (8, c)))
theorem ids_n {g c : Nat} (hg : g < 7) (hc : c < 18) : (g, c) ∈ ids := List.mem_append_left _ (List.mem_flatMap.mpr ⟨g, List.mem_range.mpr hg, List.mem_map.mpr ⟨c, List.mem_range.mpr hc, rfl⟩⟩)
theorem ids_x {c : Nat} (hc : c < 19) : (7, c) ∈ ids := List.mem_append_right _ (List.mem_append_left _ (List.mem_map.mpr ⟨c, List.mem_range.mpr hc, rfl⟩))
theorem ids_m {c : Nat} (hc : c < 17) : (8, c) ∈ ids := List.mem_append_right _ (List.mem_append_right _ (List.mem_map.mpr ⟨c, List.mem_range.mpr hc, rfl⟩))
def wl (E : En) (w : Wd) : va_W := ids.map (fun q => (E.1 q.1 q.2, celR E q.1 q.2 (w q.1 q.2)))
def tyl (E : En) : List (ClassId × FieldType) := [(E.2.2.1, .int), (E.2.2.2.1, .char), (E.2.2.2.2, .object RX4)]
def AA (E : En) : Nat → Prop := fun a => ∃ q ∈ ids, a = E.1 q.1 q.2
theorem wl_at {E : En} {w : Wd} {k g c : Nat} (h : ids[k]? = some (g, c)) : (wl E w)[k]? = some (E.1 g c, celR E g c (w g c)) := by
  simp [wl, List.getElem?_map, h]
theorem wl_set {E : En} {w : Wd} {k g c : Nat} {A : Nat → Prop} (h : ids[k]? = some (g, c)) (hD : va_D A (wl E w)) (r : Nat → Int32) : (wl E w).set k (E.1 g c, celR E g c r) = wl E (wr w g c r) := by
  apply List.ext_getElem?
  intro j
  by_cases hj : j = k
  · subst hj
    rw [List.getElem?_set_self (by have := (List.getElem?_eq_some_iff.mp (wl_at (E := E) (w := w) h)).1; exact this), wl_at h]
    simp [wr]
  · rw [List.getElem?_set_ne (Ne.symm hj)]
    simp only [wl, List.getElem?_map]
    cases hq : ids[j]? with
    | none => rfl
    | some q =>
      obtain ⟨g', c'⟩ := q
      have hne : ¬ (g' = g ∧ c' = c) := by
        rintro ⟨rfl, rfl⟩
        exact hj (hD.1 j k _ _ (wl_at hq) (wl_at h) rfl)
      simp [wr, hne]
def OB (E : En) (g c ci : Nat) (fs : (Nat → Int32) → List Value) : Prop := (g, c) ∈ ids ∧ ∀ r, celR E g c r = .inr (ci, fs r)
def AI (E : En) (g c n : Nat) : Prop := (g, c) ∈ ids ∧ ∀ r, celR E g c r = .inl (E.2.2.1, n, .inl r)
def AC (E : En) (g c n : Nat) : Prop := (g, c) ∈ ids ∧ ∀ r, celR E g c r = .inl (E.2.2.2.1, n, .inl r)
def AR (E : En) (g c n : Nat) (f : Nat → Option Nat) : Prop := (g, c) ∈ ids ∧ ∀ r, celR E g c r = .inl (E.2.2.2.2, n, .inr (.inr (.inr (.inr f))))
theorem ce_n_0 {E : En} {n : Nat} (hn : n < 7) : OB E n 0 4 (fun r => [.ref (E.1 n 1), .ref (E.1 n 2), .ref (E.1 n 3), .ref (E.1 n 10), .ref (E.1 n 13), .int (r 5), .int (r 6), .int (r 7), .int (r 8)]) := ⟨ids_n hn (by decide), fun r => if_pos hn⟩
theorem ce_n_1 {E : En} {n : Nat} (hn : n < 7) : AI E n 1 8 := ⟨ids_n hn (by decide), fun r => if_pos hn⟩
theorem ce_n_2 {E : En} {n : Nat} (hn : n < 7) : AI E n 2 64 := ⟨ids_n hn (by decide), fun r => if_pos hn⟩
theorem ce_n_3 {E : En} {n : Nat} (hn : n < 7) : OB E n 3 6 (fun r => [.ref (E.1 n 4), .ref (E.1 n 5), .ref (E.1 n 6), .ref (E.1 n 7), .ref (E.1 n 8), .ref (E.1 n 9), .int (r 6)]) := ⟨ids_n hn (by decide), fun r => if_pos hn⟩
theorem ce_n_4 {E : En} {n : Nat} (hn : n < 7) : AI E n 4 40 := ⟨ids_n hn (by decide), fun r => if_pos hn⟩
theorem ce_n_5 {E : En} {n : Nat} (hn : n < 7) : AI E n 5 40 := ⟨ids_n hn (by decide), fun r => if_pos hn⟩
theorem ce_n_6 {E : En} {n : Nat} (hn : n < 7) : AI E n 6 40 := ⟨ids_n hn (by decide), fun r => if_pos hn⟩
theorem ce_n_7 {E : En} {n : Nat} (hn : n < 7) : AI E n 7 120 := ⟨ids_n hn (by decide), fun r => if_pos hn⟩
theorem ce_n_8 {E : En} {n : Nat} (hn : n < 7) : AI E n 8 40 := ⟨ids_n hn (by decide), fun r => if_pos hn⟩
theorem ce_n_9 {E : En} {n : Nat} (hn : n < 7) : AI E n 9 40 := ⟨ids_n hn (by decide), fun r => if_pos hn⟩
theorem ce_n_10 {E : En} {n : Nat} (hn : n < 7) : OB E n 10 5 (fun r => [.ref (E.1 n 11), .ref (E.1 n 12), .int (r 2)]) := ⟨ids_n hn (by decide), fun r => if_pos hn⟩
theorem ce_n_11 {E : En} {n : Nat} (hn : n < 7) : AI E n 11 30 := ⟨ids_n hn (by decide), fun r => if_pos hn⟩
theorem ce_n_12 {E : En} {n : Nat} (hn : n < 7) : AI E n 12 30 := ⟨ids_n hn (by decide), fun r => if_pos hn⟩
theorem ce_n_13 {E : En} {n : Nat} (hn : n < 7) : OB E n 13 0 (fun r => [.ref (E.1 n 14), .ref (E.1 n 15), .ref (E.1 n 16), .ref (E.1 n 17), .int (r 4)]) := ⟨ids_n hn (by decide), fun r => if_pos hn⟩
theorem ce_n_14 {E : En} {n : Nat} (hn : n < 7) : AI E n 14 10 := ⟨ids_n hn (by decide), fun r => if_pos hn⟩
theorem ce_n_15 {E : En} {n : Nat} (hn : n < 7) : AI E n 15 10 := ⟨ids_n hn (by decide), fun r => if_pos hn⟩
theorem ce_n_16 {E : En} {n : Nat} (hn : n < 7) : AI E n 16 10 := ⟨ids_n hn (by decide), fun r => if_pos hn⟩
theorem ce_n_17 {E : En} {n : Nat} (hn : n < 7) : AI E n 17 60 := ⟨ids_n hn (by decide), fun r => if_pos hn⟩
theorem ce_7_0 {E : En} : OB E 7 0 9 (fun r => [.ref (E.1 0 0), .ref (E.1 1 0), .ref (E.1 7 1), .ref (E.1 7 3), .ref (E.1 7 11), .ref (E.1 7 16)]) := ⟨ids_x (by decide), fun r => rfl⟩
theorem ce_7_1 {E : En} : OB E 7 1 2 (fun r => [.ref (E.1 7 2), .int (r 1), .int (r 2)]) := ⟨ids_x (by decide), fun r => rfl⟩
theorem ce_7_2 {E : En} : AR E 7 2 5 (fun j => some (E.1 (2 + j) 0)) := ⟨ids_x (by decide), fun r => rfl⟩
theorem ce_7_3 {E : En} : OB E 7 3 7 (fun r => [.ref (E.1 7 4), .ref (E.1 7 5), .ref (E.1 7 6), .ref (E.1 7 7), .ref (E.1 7 8), .ref (E.1 7 9), .ref (E.1 7 10), .int (r 7), .int (r 8), .int (r 9)]) := ⟨ids_x (by decide), fun r => rfl⟩
theorem ce_7_4 {E : En} : AC E 7 4 80 := ⟨ids_x (by decide), fun r => rfl⟩
theorem ce_7_5 {E : En} : AC E 7 5 27 := ⟨ids_x (by decide), fun r => rfl⟩
theorem ce_7_6 {E : En} : AI E 7 6 27 := ⟨ids_x (by decide), fun r => rfl⟩
theorem ce_7_7 {E : En} : AI E 7 7 27 := ⟨ids_x (by decide), fun r => rfl⟩
theorem ce_7_8 {E : En} : AI E 7 8 27 := ⟨ids_x (by decide), fun r => rfl⟩
theorem ce_7_9 {E : En} : AI E 7 9 27 := ⟨ids_x (by decide), fun r => rfl⟩
theorem ce_7_10 {E : En} : AI E 7 10 27 := ⟨ids_x (by decide), fun r => rfl⟩
theorem ce_7_11 {E : En} : OB E 7 11 3 (fun r => [.ref (E.1 7 12), .ref (E.1 7 15), .int (r 2), .int (r 3), .int (r 4), .int (r 5)]) := ⟨ids_x (by decide), fun r => rfl⟩
theorem ce_7_12 {E : En} : OB E 7 12 8 (fun r => [.ref (E.1 7 13), .ref (E.1 7 14), .int (r 2)]) := ⟨ids_x (by decide), fun r => rfl⟩
theorem ce_7_13 {E : En} : AI E 7 13 30 := ⟨ids_x (by decide), fun r => rfl⟩
theorem ce_7_14 {E : En} : AI E 7 14 30 := ⟨ids_x (by decide), fun r => rfl⟩
theorem ce_7_15 {E : En} : AI E 7 15 6 := ⟨ids_x (by decide), fun r => rfl⟩
theorem ce_7_16 {E : En} : OB E 7 16 1 (fun r => [.ref (E.1 7 17), .ref (E.1 7 18), .int (r 2), .int (r 3)]) := ⟨ids_x (by decide), fun r => rfl⟩
theorem ce_7_17 {E : En} : AI E 7 17 64 := ⟨ids_x (by decide), fun r => rfl⟩
theorem ce_7_18 {E : En} : AI E 7 18 64 := ⟨ids_x (by decide), fun r => rfl⟩
theorem ce_8_0 {E : En} : OB E 8 0 10 (fun r => [.ref (E.1 8 1), .ref (E.1 8 2), .ref (E.1 8 3), .int (r 3), .ref (E.1 8 4), .int (r 5), .ref (E.1 8 5), .ref (E.1 8 6), .ref (E.1 8 7), .ref (E.1 8 8), .ref (E.1 8 9), .ref (E.1 8 10), .int (r 12), .ref (E.1 8 11), .ref (E.1 8 12), .int (r 15), .ref (E.1 8 13), .int (r 17), .ref (E.1 8 14), .int (r 19), .int (r 20), .int (r 21), .ref (E.1 8 15), .ref (E.1 8 16)]) := ⟨ids_m (by decide), fun r => rfl⟩
theorem ce_8_1 {E : En} : AI E 8 1 640 := ⟨ids_m (by decide), fun r => rfl⟩
theorem ce_8_2 {E : En} : AI E 8 2 640 := ⟨ids_m (by decide), fun r => rfl⟩
theorem ce_8_3 {E : En} : AI E 8 3 3200 := ⟨ids_m (by decide), fun r => rfl⟩
theorem ce_8_4 {E : En} : AI E 8 4 14 := ⟨ids_m (by decide), fun r => rfl⟩
theorem ce_8_5 {E : En} : AI E 8 5 8 := ⟨ids_m (by decide), fun r => rfl⟩
theorem ce_8_6 {E : En} : AI E 8 6 8 := ⟨ids_m (by decide), fun r => rfl⟩
theorem ce_8_7 {E : En} : AI E 8 7 320 := ⟨ids_m (by decide), fun r => rfl⟩
theorem ce_8_8 {E : En} : AI E 8 8 8 := ⟨ids_m (by decide), fun r => rfl⟩
theorem ce_8_9 {E : En} : AI E 8 9 8 := ⟨ids_m (by decide), fun r => rfl⟩
theorem ce_8_10 {E : En} : AI E 8 10 8 := ⟨ids_m (by decide), fun r => rfl⟩
theorem ce_8_11 {E : En} : AI E 8 11 30 := ⟨ids_m (by decide), fun r => rfl⟩
theorem ce_8_12 {E : En} : AI E 8 12 30 := ⟨ids_m (by decide), fun r => rfl⟩
theorem ce_8_13 {E : En} : AI E 8 13 8 := ⟨ids_m (by decide), fun r => rfl⟩
theorem ce_8_14 {E : En} : AI E 8 14 80 := ⟨ids_m (by decide), fun r => rfl⟩
theorem ce_8_15 {E : En} : AI E 8 15 80 := ⟨ids_m (by decide), fun r => rfl⟩
theorem ce_8_16 {E : En} : AI E 8 16 400 := ⟨ids_m (by decide), fun r => rfl⟩
/-! locals by their places -/
def lh (ls : Array Slot) (nL : Nat) (lv : List (Option Value)) : Prop := ls.size = nL ∧ lv_wf ls ∧ ∀ (i : Nat) (v : Value), lv[i]? = some (some v) → ls[i]? = some (.val v)
def lprs : Nat → List (Option Value) → List (Nat × Value)
  | _, [] => []
  | i, none :: t => lprs (i + 1) t
  | i, some v :: t => (i, v) :: lprs (i + 1) t
theorem mem_lprs (j : Nat) (v : Value) : ∀ (lv : List (Option Value)) (i : Nat), (j, v) ∈ lprs i lv ↔ ∃ k, lv[k]? = some (some v) ∧ j = i + k
  | [], i => by simp [lprs]
  | none :: t, i => by
    rw [lprs, mem_lprs j v t (i + 1)]
    constructor
    · rintro ⟨k, h1, h2⟩
      exact ⟨k + 1, by simpa using h1, by omega⟩
    · rintro ⟨k, h1, h2⟩
      cases k with
      | zero => simp at h1
      | succ k => exact ⟨k, by simpa using h1, by omega⟩
  | some u :: t, i => by
    rw [lprs, List.mem_cons, mem_lprs j v t (i + 1)]
    constructor
    · rintro (h | ⟨k, h1, h2⟩)
      · cases h
        exact ⟨0, by simp, by omega⟩
      · exact ⟨k + 1, by simpa using h1, by omega⟩
    · rintro ⟨k, h1, h2⟩
      cases k with
      | zero =>
        simp at h1
        subst h1
        exact Or.inl (by rw [h2]; rfl)
      | succ k => exact Or.inr ⟨k, by simpa using h1, by omega⟩
theorem lh_has {ls : Array Slot} {nL : Nat} {lv : List (Option Value)} (h : lh ls nL lv) : lv_has ls nL (lprs 0 lv) := by
  refine ⟨h.1, h.2.1, fun q hq => ?_⟩
  obtain ⟨k, h1, h2⟩ := (mem_lprs q.1 q.2 lv 0).mp hq
  rw [h2, Nat.zero_add]
  exact h.2.2 k q.2 h1
theorem has_lh {ls : Array Slot} {nL : Nat} {lv : List (Option Value)} (h : lv_has ls nL (lprs 0 lv)) : lh ls nL lv :=
  ⟨h.1, h.2.1, fun i v hv => h.2.2 (i, v) ((mem_lprs i v lv 0).mpr ⟨i, hv, by omega⟩)⟩
def lok (lv : List (Option Value)) (i : Nat) : Bool := i == 0 || (match lv[i - 1]? with
  | some (some u) => u.category == 1
  | _ => true)
theorem lok_of {lv : List (Option Value)} {i j : Nat} {u : Value} (h : lok lv i = true) (hj : j + 1 = i) (hu : lv[j]? = some (some u)) : ¬ u.category = 2 := by
  subst hj
  simp [lok, hu] at h
  omega
theorem lh_store1 {ls : Array Slot} {nL i : Nat} {v : Value} {lv : List (Option Value)} (hok : lok lv i = true) (h : lv_has ls nL ((i, v) :: (lprs 0 lv).filter (fun q => !(q.1 == i) && !(q.1 + 1 == i && q.2.category == 2)))) : lh ls nL (lv.set i (some v)) := by
  refine ⟨h.1, h.2.1, fun j u hu => ?_⟩
  by_cases hj : j = i
  · subst hj
    by_cases hl : j < lv.length
    · rw [List.getElem?_set_self hl] at hu
      cases hu
      exact h.2.2 (j, v) List.mem_cons_self
    · rw [List.set_eq_of_length_le (by omega)] at hu
      rw [List.getElem?_eq_none (by omega)] at hu
      cases hu
  · rw [List.getElem?_set_ne (Ne.symm hj)] at hu
    refine h.2.2 (j, u) (List.mem_cons_of_mem _ (List.mem_filter.mpr ⟨(mem_lprs j u lv 0).mpr ⟨j, hu, by omega⟩, ?_⟩))
    by_cases hi : j + 1 = i
    · have := lok_of hok hi hu
      simp [hj, this]
    · simp [hj, hi]
theorem lh_store2 {ls : Array Slot} {nL i : Nat} {v : Value} {lv : List (Option Value)} (hok : lok lv i = true) (h : lv_has ls nL ((i, v) :: (lprs 0 lv).filter (fun q => !(q.1 == i) && (!(q.1 == i + 1) && !(q.1 + 1 == i && q.2.category == 2))))) : lh ls nL ((lv.set i (some v)).set (i + 1) none) := by
  refine ⟨h.1, h.2.1, fun j u hu => ?_⟩
  by_cases h1 : j = i + 1
  · subst h1
    by_cases hl : i + 1 < (lv.set i (some v)).length
    · rw [List.getElem?_set_self hl] at hu
      cases hu
    · rw [List.getElem?_eq_none (by simpa using Nat.not_lt.mp hl)] at hu
      cases hu
  · rw [List.getElem?_set_ne (Ne.symm h1)] at hu
    by_cases hj : j = i
    · subst hj
      by_cases hl : j < lv.length
      · rw [List.getElem?_set_self hl] at hu
        cases hu
        exact h.2.2 (j, v) List.mem_cons_self
      · rw [List.set_eq_of_length_le (by omega)] at hu
        rw [List.getElem?_eq_none (by omega)] at hu
        cases hu
    · rw [List.getElem?_set_ne (Ne.symm hj)] at hu
      refine h.2.2 (j, u) (List.mem_cons_of_mem _ (List.mem_filter.mpr ⟨(mem_lprs j u lv 0).mpr ⟨j, hu, by omega⟩, ?_⟩))
      by_cases hi : j + 1 = i
      · have := lok_of hok hi hu
        simp [hj, h1, this]
      · simp [hj, h1, hi]
/-! the judgements -/
def NWs (s : State) : Prop := ∀ w ∈ lw_tbl, isNest w = true → va_Nw w s
def Wk (E : En) (w : Wd) (U : State) : Prop := va_P E.2.1 vwCl (wl E w) U.heap ∧ va_K E.2.1 vwCl (tyl E) U ∧ va_D (AA E) (wl E w) ∧ NWs U
def Qm (E : En) (r : Option Value) (w' : Wd) : Array Value → State → Outcome → State → Prop := fun _ st oc t => oc = .returned r ∧ va_P E.2.1 vwCl (wl E w') t.heap ∧ va_K E.2.1 vwCl (tyl E) t ∧ va_D (AA E) (wl E w') ∧ va_F (AA E) st t
def Mt (l : Launch) (E : En) (y : MethodName) (cc : ByteArray) (n : Nat) (ret : Option FieldType) (rm : Room) (as : List Value) (w : Wd) (r : Option Value) (w' : Wd) : Prop :=
  Met l y (.code y cc n ret :: gwl) rm (va_Pc as (Wk E w)) (Qm E r w') 0 0 (AA E)
def Cx (E : En) (cc : ByteArray) (nL : Nat) (own : String) (rt : Option FieldType) (p : Program) (s : State) (m : MethodId) (args : Array Value) (meth : Method) (c : Code) : Prop :=
  p.tables.exec = Jvm.exec ∧ c.code = cc ∧ c.maxLocals = nL ∧ s.vm.findClass own = some m.cls ∧ (∀ w ∈ gwl, w.before args s = true) ∧ NWs s ∧ meth.sig.returnType = rt ∧ meth.locks = false ∧ va_K E.2.1 vwCl (tyl E) s
def Gm {α : Type} (l : Launch) (E : En) (cc : ByteArray) (nL : Nat) (own : String) (rt : Option FieldType) (R : Room) (en : α → Option Value) (res : Option (α × Wd)) (w : Wd) (pc : Nat) (lv : List (Option Value)) (st : List Value) : Prop :=
  ∀ q, res = some q → ∀ (p : Program) (e : Env) (s : State) (m : MethodId) (args : Array Value) (below : List Frame) (meth : Method) (c : Code) (H : Heap) (locs : List Loc) (ls : Array Slot), Cx E cc nL own rt p s m args meth c → va_P E.2.1 vwCl (wl E w) H → va_D (AA E) (wl E w) → va_S (AA E) s.heap H locs → lh ls nL lv →
    W p l e R s m args below meth c H locs 0 0 (MQ below (Qm E (en q.1) q.2) args s 0 0 (AA E)) (F0 m pc ls st)
def eI : Int32 → Option Value := fun r => some (.int r)
def eL : Int64 → Option Value := fun r => some (.long r)
def eV : Unit → Option Value := fun _ => none
def eR (E : En) (c : Nat) : Nat → Option Value := fun g => some (.ref (E.1 g c))
theorem isNest_on {w : Cond} (h : isNest w = true) : w.onTables = true := by
  cases w <;> first | rfl | (simp [isNest] at h)
theorem NWs.warm {s U : State} (hW : s.WarmedH U.vm) (h : NWs s) : NWs U := by
  intro w hw hn
  cases w <;> first | (simp [isNest] at hn; done) | exact va_Nw.warmM hW (h _ hw hn)
theorem Wk.blind {E : En} {w : Wd} {as : List Value} : FrameBlind (va_Pc as (Wk E w)) := by
  intro a U g mk q
  obtain ⟨q0, qP, qK, qD, qN⟩ := q
  exact ⟨q0, qP, va_K.moved (u := U) (U := U.calling g mk a) (Vm.Alike.refl U.vm) qK, qD, fun w hw hn => va_Nw.same (u := U) (U := U.calling g mk a) (isNest_on hn) rfl (qN w hw hn)⟩

section GM
variable {α : Type} {l : Launch} {E : En} {cc : ByteArray} {nL : Nat} {own : String} {rt : Option FieldType} {R : Room} {en : α → Option Value} {res A B : Option (α × Wd)} {w : Wd} {pc : Nat} {lv : List (Option Value)} {st : List Value}
theorem gm_iconst {n : Int} {v : Int32} (hd : decode cc pc = .ok (.iconst n, 1)) (hv : Int32.ofInt n = v) (h : Gm l E cc nL own rt R en (res) (w) (pc + 1) (lv) (.int v :: st)) : Gm l E cc nL own rt R en (res) (w) (pc) (lv) (st) := by
  intro q hq p e s m args below meth c H locs ls hC hP hD hS hl
  exact lv_iconst hC.1 hC.2.1 hd hv (h q hq p e s m args below meth c H locs ls hC hP hD hS hl)
theorem gm_bipush {n : Int} {v : Int32} (hd : decode cc pc = .ok (.bipush n, 2)) (hv : (Int8.ofInt n).toInt32 = v) (h : Gm l E cc nL own rt R en (res) (w) (pc + 2) (lv) (.int v :: st)) : Gm l E cc nL own rt R en (res) (w) (pc) (lv) (st) := by
  intro q hq p e s m args below meth c H locs ls hC hP hD hS hl
  exact lv_bipush hC.1 hC.2.1 hd hv (h q hq p e s m args below meth c H locs ls hC hP hD hS hl)
theorem gm_sipush {n : Int} {v : Int32} (hd : decode cc pc = .ok (.sipush n, 3)) (hv : (Int16.ofInt n).toInt32 = v) (h : Gm l E cc nL own rt R en (res) (w) (pc + 3) (lv) (.int v :: st)) : Gm l E cc nL own rt R en (res) (w) (pc) (lv) (st) := by
  intro q hq p e s m args below meth c H locs ls hC hP hD hS hl
  exact lv_sipush hC.1 hC.2.1 hd hv (h q hq p e s m args below meth c H locs ls hC hP hD hS hl)
theorem gm_lconst {n : Fin 2} {v : Int64} (hd : decode cc pc = .ok (.lconst n, 1)) (hv : Int64.ofNat (n : Nat) = v) (h : Gm l E cc nL own rt R en (res) (w) (pc + 1) (lv) (.long v :: st)) : Gm l E cc nL own rt R en (res) (w) (pc) (lv) (st) := by
  intro q hq p e s m args below meth c H locs ls hC hP hD hS hl
  exact lv_lconst hC.1 hC.2.1 hd hv (h q hq p e s m args below meth c H locs ls hC hP hD hS hl)
theorem gm_ldc {i : Nat} {v : Int32} (hd : decode cc pc = .ok (.ldc i, 2)) (hc : Cond.constant own i v ∈ lw_tbl) (h : Gm l E cc nL own rt R en (res) (w) (pc + 2) (lv) (.int v :: st)) : Gm l E cc nL own rt R en (res) (w) (pc) (lv) (st) := by
  intro q hq p e s m args below meth c H locs ls hC hP hD hS hl
  exact lv_ldc hC.1 hC.2.1 hC.2.2.2.1 (hC.2.2.2.2.1 _ (gw_in hc rfl)) hd (h q hq p e s m args below meth c H locs ls hC hP hD hS hl)
theorem gm_ldcw {i : Nat} {v : Int32} (hd : decode cc pc = .ok (.ldc_w i, 3)) (hc : Cond.constant own i v ∈ lw_tbl) (h : Gm l E cc nL own rt R en (res) (w) (pc + 3) (lv) (.int v :: st)) : Gm l E cc nL own rt R en (res) (w) (pc) (lv) (st) := by
  intro q hq p e s m args below meth c H locs ls hC hP hD hS hl
  exact lv_ldcw hC.1 hC.2.1 hC.2.2.2.1 (hC.2.2.2.2.1 _ (gw_in hc rfl)) hd (h q hq p e s m args below meth c H locs ls hC hP hD hS hl)
theorem gm_ldc2 {i : Nat} {v : Int64} (hd : decode cc pc = .ok (.ldc2_w i, 3)) (hc : Cond.constantLong own i v ∈ lw_tbl) (h : Gm l E cc nL own rt R en (res) (w) (pc + 3) (lv) (.long v :: st)) : Gm l E cc nL own rt R en (res) (w) (pc) (lv) (st) := by
  intro q hq p e s m args below meth c H locs ls hC hP hD hS hl
  exact lv_ldc2 hC.1 hC.2.1 hC.2.2.2.1 (hC.2.2.2.2.1 _ (gw_in hc rfl)) hd (h q hq p e s m args below meth c H locs ls hC hP hD hS hl)
theorem gm_iload_n {k : Fin 4} {i : Nat} {x : Int32} (hd : decode cc pc = .ok (.iload_n k, 1)) (hi : (k : Nat) = i) (hx : lv[i]? = some (some (.int x))) (h : Gm l E cc nL own rt R en (res) (w) (pc + 1) (lv) (.int x :: st)) : Gm l E cc nL own rt R en (res) (w) (pc) (lv) (st) := by
  intro q hq p e s m args below meth c H locs ls hC hP hD hS hl
  exact lv_iload_n hC.1 hC.2.1 hd hi (hl.2.2 i _ hx) (h q hq p e s m args below meth c H locs ls hC hP hD hS hl)
theorem gm_iload {i : Nat} {x : Int32} (hd : decode cc pc = .ok (.iload i, 2)) (hx : lv[i]? = some (some (.int x))) (h : Gm l E cc nL own rt R en (res) (w) (pc + 2) (lv) (.int x :: st)) : Gm l E cc nL own rt R en (res) (w) (pc) (lv) (st) := by
  intro q hq p e s m args below meth c H locs ls hC hP hD hS hl
  exact lv_iload hC.1 hC.2.1 hd (hl.2.2 i _ hx) (h q hq p e s m args below meth c H locs ls hC hP hD hS hl)
theorem gm_lload_n {k : Fin 4} {i : Nat} {x : Int64} (hd : decode cc pc = .ok (.lload_n k, 1)) (hi : (k : Nat) = i) (hx : lv[i]? = some (some (.long x))) (h : Gm l E cc nL own rt R en (res) (w) (pc + 1) (lv) (.long x :: st)) : Gm l E cc nL own rt R en (res) (w) (pc) (lv) (st) := by
  intro q hq p e s m args below meth c H locs ls hC hP hD hS hl
  exact lv_lload_n hC.1 hC.2.1 hd hi (hl.2.2 i _ hx) (h q hq p e s m args below meth c H locs ls hC hP hD hS hl)
theorem gm_lload {i : Nat} {x : Int64} (hd : decode cc pc = .ok (.lload i, 2)) (hx : lv[i]? = some (some (.long x))) (h : Gm l E cc nL own rt R en (res) (w) (pc + 2) (lv) (.long x :: st)) : Gm l E cc nL own rt R en (res) (w) (pc) (lv) (st) := by
  intro q hq p e s m args below meth c H locs ls hC hP hD hS hl
  exact lv_lload hC.1 hC.2.1 hd (hl.2.2 i _ hx) (h q hq p e s m args below meth c H locs ls hC hP hD hS hl)
theorem gm_aload_n {k : Fin 4} {i : Nat} {x : Nat} (hd : decode cc pc = .ok (.aload_n k, 1)) (hi : (k : Nat) = i) (hx : lv[i]? = some (some (.ref x))) (h : Gm l E cc nL own rt R en (res) (w) (pc + 1) (lv) (.ref x :: st)) : Gm l E cc nL own rt R en (res) (w) (pc) (lv) (st) := by
  intro q hq p e s m args below meth c H locs ls hC hP hD hS hl
  exact lv_aload_n hC.1 hC.2.1 hd hi (hl.2.2 i _ hx) (h q hq p e s m args below meth c H locs ls hC hP hD hS hl)
theorem gm_aload {i : Nat} {x : Nat} (hd : decode cc pc = .ok (.aload i, 2)) (hx : lv[i]? = some (some (.ref x))) (h : Gm l E cc nL own rt R en (res) (w) (pc + 2) (lv) (.ref x :: st)) : Gm l E cc nL own rt R en (res) (w) (pc) (lv) (st) := by
  intro q hq p e s m args below meth c H locs ls hC hP hD hS hl
  exact lv_aload hC.1 hC.2.1 hd (hl.2.2 i _ hx) (h q hq p e s m args below meth c H locs ls hC hP hD hS hl)
theorem gm_istore {i : Nat} {x : Int32} {lv' : List (Option Value)} (hd : decode cc pc = .ok (.istore i, 2)) (hn : i < nL) (hok : lok lv i = true) (hlv : (lv.set i (some (.int x))) = lv') (h : Gm l E cc nL own rt R en (res) (w) (pc + 2) (lv') (st)) : Gm l E cc nL own rt R en (res) (w) (pc) (lv) (.int x :: st) := by
  intro q hq p e s m args below meth c H locs ls hC hP hD hS hl
  subst hlv
  exact lv_istore hC.1 hC.2.1 hd (lh_has hl) hn rfl (fun ls hl2 => h q hq p e s m args below meth c H locs ls hC hP hD hS (lh_store1 hok hl2))
theorem gm_istore_n {k : Fin 4} {i : Nat} {x : Int32} {lv' : List (Option Value)} (hd : decode cc pc = .ok (.istore_n k, 1)) (hi : (k : Nat) = i) (hn : i < nL) (hok : lok lv i = true) (hlv : (lv.set i (some (.int x))) = lv') (h : Gm l E cc nL own rt R en (res) (w) (pc + 1) (lv') (st)) : Gm l E cc nL own rt R en (res) (w) (pc) (lv) (.int x :: st) := by
  intro q hq p e s m args below meth c H locs ls hC hP hD hS hl
  subst hlv
  exact lv_istore_n hC.1 hC.2.1 hd hi (lh_has hl) hn rfl (fun ls hl2 => h q hq p e s m args below meth c H locs ls hC hP hD hS (lh_store1 hok hl2))
theorem gm_lstore {i : Nat} {x : Int64} {lv' : List (Option Value)} (hd : decode cc pc = .ok (.lstore i, 2)) (hn : i + 1 < nL) (hok : lok lv i = true) (hlv : ((lv.set i (some (.long x))).set (i + 1) none) = lv') (h : Gm l E cc nL own rt R en (res) (w) (pc + 2) (lv') (st)) : Gm l E cc nL own rt R en (res) (w) (pc) (lv) (.long x :: st) := by
  intro q hq p e s m args below meth c H locs ls hC hP hD hS hl
  subst hlv
  exact lv_lstore hC.1 hC.2.1 hd (lh_has hl) hn rfl (fun ls hl2 => h q hq p e s m args below meth c H locs ls hC hP hD hS (lh_store2 hok hl2))
theorem gm_lstore_n {k : Fin 4} {i : Nat} {x : Int64} {lv' : List (Option Value)} (hd : decode cc pc = .ok (.lstore_n k, 1)) (hi : (k : Nat) = i) (hn : i + 1 < nL) (hok : lok lv i = true) (hlv : ((lv.set i (some (.long x))).set (i + 1) none) = lv') (h : Gm l E cc nL own rt R en (res) (w) (pc + 1) (lv') (st)) : Gm l E cc nL own rt R en (res) (w) (pc) (lv) (.long x :: st) := by
  intro q hq p e s m args below meth c H locs ls hC hP hD hS hl
  subst hlv
  exact lv_lstore_n hC.1 hC.2.1 hd hi (lh_has hl) hn rfl (fun ls hl2 => h q hq p e s m args below meth c H locs ls hC hP hD hS (lh_store2 hok hl2))
theorem gm_astore {i : Nat} {x : Nat} {lv' : List (Option Value)} (hd : decode cc pc = .ok (.astore i, 2)) (hn : i < nL) (hok : lok lv i = true) (hlv : (lv.set i (some (.ref x))) = lv') (h : Gm l E cc nL own rt R en (res) (w) (pc + 2) (lv') (st)) : Gm l E cc nL own rt R en (res) (w) (pc) (lv) (.ref x :: st) := by
  intro q hq p e s m args below meth c H locs ls hC hP hD hS hl
  subst hlv
  exact lv_astore hC.1 hC.2.1 hd (lh_has hl) hn rfl (fun ls hl2 => h q hq p e s m args below meth c H locs ls hC hP hD hS (lh_store1 hok hl2))
theorem gm_astore_n {k : Fin 4} {i : Nat} {x : Nat} {lv' : List (Option Value)} (hd : decode cc pc = .ok (.astore_n k, 1)) (hi : (k : Nat) = i) (hn : i < nL) (hok : lok lv i = true) (hlv : (lv.set i (some (.ref x))) = lv') (h : Gm l E cc nL own rt R en (res) (w) (pc + 1) (lv') (st)) : Gm l E cc nL own rt R en (res) (w) (pc) (lv) (.ref x :: st) := by
  intro q hq p e s m args below meth c H locs ls hC hP hD hS hl
  subst hlv
  exact lv_astore_n hC.1 hC.2.1 hd hi (lh_has hl) hn rfl (fun ls hl2 => h q hq p e s m args below meth c H locs ls hC hP hD hS (lh_store1 hok hl2))
theorem gm_iinc {i : Nat} {n : Int} {x v : Int32} {lv' : List (Option Value)} (hd : decode cc pc = .ok (.iinc i n, 3)) (hx : lv[i]? = some (some (.int x))) (hv : Int32.ofInt n = v) (hn : i < nL) (hok : lok lv i = true) (hlv : (lv.set i (some (.int (x + v)))) = lv') (h : Gm l E cc nL own rt R en (res) (w) (pc + 3) (lv') (st)) : Gm l E cc nL own rt R en (res) (w) (pc) (lv) (st) := by
  intro q hq p e s m args below meth c H locs ls hC hP hD hS hl
  subst hlv
  subst hv
  obtain ⟨k, hk⟩ := List.getElem?_of_mem ((mem_lprs i (.int x) lv 0).mpr ⟨i, hx, by omega⟩)
  exact lv_iinc hC.1 hC.2.1 hd (lh_has hl) hk rfl hn rfl (fun ls hl2 => h q hq p e s m args below meth c H locs ls hC hP hD hS (lh_store1 hok hl2))
theorem gm_iadd {x y : Int32} (hd : decode cc pc = .ok (.iadd, 1)) (h : Gm l E cc nL own rt R en (res) (w) (pc + 1) (lv) (.int (x + y) :: st)) : Gm l E cc nL own rt R en (res) (w) (pc) (lv) (.int y :: .int x :: st) := by
  intro q hq p e s m args below meth c H locs ls hC hP hD hS hl
  exact lv_iadd hC.1 hC.2.1 hd (h q hq p e s m args below meth c H locs ls hC hP hD hS hl)
theorem gm_isub {x y : Int32} (hd : decode cc pc = .ok (.isub, 1)) (h : Gm l E cc nL own rt R en (res) (w) (pc + 1) (lv) (.int (x - y) :: st)) : Gm l E cc nL own rt R en (res) (w) (pc) (lv) (.int y :: .int x :: st) := by
  intro q hq p e s m args below meth c H locs ls hC hP hD hS hl
  exact lv_isub hC.1 hC.2.1 hd (h q hq p e s m args below meth c H locs ls hC hP hD hS hl)
theorem gm_imul {x y : Int32} (hd : decode cc pc = .ok (.imul, 1)) (h : Gm l E cc nL own rt R en (res) (w) (pc + 1) (lv) (.int (x * y) :: st)) : Gm l E cc nL own rt R en (res) (w) (pc) (lv) (.int y :: .int x :: st) := by
  intro q hq p e s m args below meth c H locs ls hC hP hD hS hl
  exact lv_imul hC.1 hC.2.1 hd (h q hq p e s m args below meth c H locs ls hC hP hD hS hl)
theorem gm_iand {x y : Int32} (hd : decode cc pc = .ok (.iand, 1)) (h : Gm l E cc nL own rt R en (res) (w) (pc + 1) (lv) (.int (x &&& y) :: st)) : Gm l E cc nL own rt R en (res) (w) (pc) (lv) (.int y :: .int x :: st) := by
  intro q hq p e s m args below meth c H locs ls hC hP hD hS hl
  exact lv_iand hC.1 hC.2.1 hd (h q hq p e s m args below meth c H locs ls hC hP hD hS hl)
theorem gm_ior {x y : Int32} (hd : decode cc pc = .ok (.ior, 1)) (h : Gm l E cc nL own rt R en (res) (w) (pc + 1) (lv) (.int (x ||| y) :: st)) : Gm l E cc nL own rt R en (res) (w) (pc) (lv) (.int y :: .int x :: st) := by
  intro q hq p e s m args below meth c H locs ls hC hP hD hS hl
  exact lv_ior hC.1 hC.2.1 hd (h q hq p e s m args below meth c H locs ls hC hP hD hS hl)
theorem gm_ixor {x y : Int32} (hd : decode cc pc = .ok (.ixor, 1)) (h : Gm l E cc nL own rt R en (res) (w) (pc + 1) (lv) (.int (x ^^^ y) :: st)) : Gm l E cc nL own rt R en (res) (w) (pc) (lv) (.int y :: .int x :: st) := by
  intro q hq p e s m args below meth c H locs ls hC hP hD hS hl
  exact lv_ixor hC.1 hC.2.1 hd (h q hq p e s m args below meth c H locs ls hC hP hD hS hl)
theorem gm_ishl {x y : Int32} (hd : decode cc pc = .ok (.ishl, 1)) (h : Gm l E cc nL own rt R en (res) (w) (pc + 1) (lv) (.int (x <<< (y &&& 31)) :: st)) : Gm l E cc nL own rt R en (res) (w) (pc) (lv) (.int y :: .int x :: st) := by
  intro q hq p e s m args below meth c H locs ls hC hP hD hS hl
  exact lv_ishl hC.1 hC.2.1 hd (h q hq p e s m args below meth c H locs ls hC hP hD hS hl)
theorem gm_ishr {x y : Int32} (hd : decode cc pc = .ok (.ishr, 1)) (h : Gm l E cc nL own rt R en (res) (w) (pc + 1) (lv) (.int (x >>> (y &&& 31)) :: st)) : Gm l E cc nL own rt R en (res) (w) (pc) (lv) (.int y :: .int x :: st) := by
  intro q hq p e s m args below meth c H locs ls hC hP hD hS hl
  exact lv_ishr hC.1 hC.2.1 hd (h q hq p e s m args below meth c H locs ls hC hP hD hS hl)
theorem gm_iushr {x y v : Int32} (hd : decode cc pc = .ok (.iushr, 1)) (hv : (x.toUInt32 >>> (y.toUInt32 &&& Int32.toUInt32 31)).toInt32 = v) (h : Gm l E cc nL own rt R en (res) (w) (pc + 1) (lv) (.int v :: st)) : Gm l E cc nL own rt R en (res) (w) (pc) (lv) (.int y :: .int x :: st) := by
  intro q hq p e s m args below meth c H locs ls hC hP hD hS hl
  exact lv_iushr hC.1 hC.2.1 hd hv (h q hq p e s m args below meth c H locs ls hC hP hD hS hl)
theorem gm_ineg {x : Int32} (hd : decode cc pc = .ok (.ineg, 1)) (h : Gm l E cc nL own rt R en (res) (w) (pc + 1) (lv) (.int (-x) :: st)) : Gm l E cc nL own rt R en (res) (w) (pc) (lv) (.int x :: st) := by
  intro q hq p e s m args below meth c H locs ls hC hP hD hS hl
  exact lv_ineg hC.1 hC.2.1 hd (h q hq p e s m args below meth c H locs ls hC hP hD hS hl)
theorem gm_idiv {x y : Int32} (hd : decode cc pc = .ok (.idiv, 1)) (hne : ¬ y = 0) (h : Gm l E cc nL own rt R en (res) (w) (pc + 1) (lv) (.int (x / y) :: st)) : Gm l E cc nL own rt R en (res) (w) (pc) (lv) (.int y :: .int x :: st) := by
  intro q hq p e s m args below meth c H locs ls hC hP hD hS hl
  exact lv_idiv hC.1 hC.2.1 hd hne (h q hq p e s m args below meth c H locs ls hC hP hD hS hl)
theorem gm_idiv_g {x y : Int32} (hd : decode cc pc = .ok (.idiv, 1)) (h : Gm l E cc nL own rt R en (res) (w) (pc + 1) (lv) (.int (x / y) :: st)) : Gm l E cc nL own rt R en (if y = 0 then none else res) (w) (pc) (lv) (.int y :: .int x :: st) := by
  intro q hq p e s m args below meth c H locs ls hC hP hD hS hl
  by_cases hne : y = 0
  · rw [if_pos hne] at hq; cases hq
  · rw [if_neg hne] at hq
    exact lv_idiv hC.1 hC.2.1 hd hne (h q hq p e s m args below meth c H locs ls hC hP hD hS hl)
theorem gm_irem {x y : Int32} (hd : decode cc pc = .ok (.irem, 1)) (hne : ¬ y = 0) (h : Gm l E cc nL own rt R en (res) (w) (pc + 1) (lv) (.int (x - x / y * y) :: st)) : Gm l E cc nL own rt R en (res) (w) (pc) (lv) (.int y :: .int x :: st) := by
  intro q hq p e s m args below meth c H locs ls hC hP hD hS hl
  exact lv_irem hC.1 hC.2.1 hd hne (h q hq p e s m args below meth c H locs ls hC hP hD hS hl)
theorem gm_irem_g {x y : Int32} (hd : decode cc pc = .ok (.irem, 1)) (h : Gm l E cc nL own rt R en (res) (w) (pc + 1) (lv) (.int (x - x / y * y) :: st)) : Gm l E cc nL own rt R en (if y = 0 then none else res) (w) (pc) (lv) (.int y :: .int x :: st) := by
  intro q hq p e s m args below meth c H locs ls hC hP hD hS hl
  by_cases hne : y = 0
  · rw [if_pos hne] at hq; cases hq
  · rw [if_neg hne] at hq
    exact lv_irem hC.1 hC.2.1 hd hne (h q hq p e s m args below meth c H locs ls hC hP hD hS hl)
theorem gm_ladd {x y : Int64} (hd : decode cc pc = .ok (.ladd, 1)) (h : Gm l E cc nL own rt R en (res) (w) (pc + 1) (lv) (.long (x + y) :: st)) : Gm l E cc nL own rt R en (res) (w) (pc) (lv) (.long y :: .long x :: st) := by
  intro q hq p e s m args below meth c H locs ls hC hP hD hS hl
  exact lv_ladd hC.1 hC.2.1 hd (h q hq p e s m args below meth c H locs ls hC hP hD hS hl)
theorem gm_lsub {x y : Int64} (hd : decode cc pc = .ok (.lsub, 1)) (h : Gm l E cc nL own rt R en (res) (w) (pc + 1) (lv) (.long (x - y) :: st)) : Gm l E cc nL own rt R en (res) (w) (pc) (lv) (.long y :: .long x :: st) := by
  intro q hq p e s m args below meth c H locs ls hC hP hD hS hl
  exact lv_lsub hC.1 hC.2.1 hd (h q hq p e s m args below meth c H locs ls hC hP hD hS hl)
theorem gm_lmul {x y : Int64} (hd : decode cc pc = .ok (.lmul, 1)) (h : Gm l E cc nL own rt R en (res) (w) (pc + 1) (lv) (.long (x * y) :: st)) : Gm l E cc nL own rt R en (res) (w) (pc) (lv) (.long y :: .long x :: st) := by
  intro q hq p e s m args below meth c H locs ls hC hP hD hS hl
  exact lv_lmul hC.1 hC.2.1 hd (h q hq p e s m args below meth c H locs ls hC hP hD hS hl)
theorem gm_ldiv {x y : Int64} (hd : decode cc pc = .ok (.ldiv, 1)) (hne : ¬ y = 0) (h : Gm l E cc nL own rt R en (res) (w) (pc + 1) (lv) (.long (x / y) :: st)) : Gm l E cc nL own rt R en (res) (w) (pc) (lv) (.long y :: .long x :: st) := by
  intro q hq p e s m args below meth c H locs ls hC hP hD hS hl
  exact lv_ldiv hC.1 hC.2.1 hd hne (h q hq p e s m args below meth c H locs ls hC hP hD hS hl)
theorem gm_lcmp {x y : Int64} (hd : decode cc pc = .ok (.lcmp, 1)) (h : Gm l E cc nL own rt R en (res) (w) (pc + 1) (lv) (.int (lg_cmp x y) :: st)) : Gm l E cc nL own rt R en (res) (w) (pc) (lv) (.long y :: .long x :: st) := by
  intro q hq p e s m args below meth c H locs ls hC hP hD hS hl
  exact W.lcmp hC.1 hC.2.1 hd (h q hq p e s m args below meth c H locs ls hC hP hD hS hl)
theorem gm_i2l {x : Int32} (hd : decode cc pc = .ok (.i2l, 1)) (h : Gm l E cc nL own rt R en (res) (w) (pc + 1) (lv) (.long x.toInt64 :: st)) : Gm l E cc nL own rt R en (res) (w) (pc) (lv) (.int x :: st) := by
  intro q hq p e s m args below meth c H locs ls hC hP hD hS hl
  exact lv_i2l hC.1 hC.2.1 hd rfl (h q hq p e s m args below meth c H locs ls hC hP hD hS hl)
theorem gm_i2c {x : Int32} (hd : decode cc pc = .ok (.i2c, 1)) (h : Gm l E cc nL own rt R en (res) (w) (pc + 1) (lv) (.int (x.toUInt32 % 65536).toInt32 :: st)) : Gm l E cc nL own rt R en (res) (w) (pc) (lv) (.int x :: st) := by
  intro q hq p e s m args below meth c H locs ls hC hP hD hS hl
  exact lv_i2c hC.1 hC.2.1 hd rfl (h q hq p e s m args below meth c H locs ls hC hP hD hS hl)
theorem gm_dup {v : Value} (hd : decode cc pc = .ok (.dup, 1)) (hv : v.category = 1) (h : Gm l E cc nL own rt R en (res) (w) (pc + 1) (lv) (v :: v :: st)) : Gm l E cc nL own rt R en (res) (w) (pc) (lv) (v :: st) := by
  intro q hq p e s m args below meth c H locs ls hC hP hD hS hl
  exact lv_dup hC.1 hC.2.1 hd hv (h q hq p e s m args below meth c H locs ls hC hP hD hS hl)
theorem gm_pop {v : Value} (hd : decode cc pc = .ok (.pop, 1)) (hv : v.category = 1) (h : Gm l E cc nL own rt R en (res) (w) (pc + 1) (lv) (st)) : Gm l E cc nL own rt R en (res) (w) (pc) (lv) (v :: st) := by
  intro q hq p e s m args below meth c H locs ls hC hP hD hS hl
  exact lv_pop hC.1 hC.2.1 hd hv (h q hq p e s m args below meth c H locs ls hC hP hD hS hl)
theorem gm_dup_x1 {v u : Value} (hd : decode cc pc = .ok (.dup_x1, 1)) (hv : v.category = 1) (hu : u.category = 1) (h : Gm l E cc nL own rt R en (res) (w) (pc + 1) (lv) (v :: u :: v :: st)) : Gm l E cc nL own rt R en (res) (w) (pc) (lv) (v :: u :: st) := by
  intro q hq p e s m args below meth c H locs ls hC hP hD hS hl
  exact lv_dup_x1 hC.1 hC.2.1 hd hv hu (h q hq p e s m args below meth c H locs ls hC hP hD hS hl)
theorem gm_dup2 {v u : Value} (hd : decode cc pc = .ok (.dup2, 1)) (hv : v.category = 1) (hu : u.category = 1) (h : Gm l E cc nL own rt R en (res) (w) (pc + 1) (lv) (v :: u :: v :: u :: st)) : Gm l E cc nL own rt R en (res) (w) (pc) (lv) (v :: u :: st) := by
  intro q hq p e s m args below meth c H locs ls hC hP hD hS hl
  exact lv_dup2_11 hC.1 hC.2.1 hd hv hu (h q hq p e s m args below meth c H locs ls hC hP hD hS hl)
theorem gm_if_eq {x : Int32} {off : Int} {tgt : Nat} (hd : decode cc pc = .ok (.ifCond .eq off, 3)) (ht : (pc : Int) + off = (tgt : Int)) (h1 : Gm l E cc nL own rt R en (A) (w) (tgt) (lv) (st)) (h2 : Gm l E cc nL own rt R en (B) (w) (pc + 3) (lv) (st)) : Gm l E cc nL own rt R en (if x = 0 then A else B) (w) (pc) (lv) (.int x :: st) := by
  intro q hq p e s m args below meth c H locs ls hC hP hD hS hl
  refine lv_if_eq hC.1 hC.2.1 hd ht (fun hc => ?_) (fun hc => ?_)
  · rw [if_pos hc] at hq
    exact h1 q hq p e s m args below meth c H locs ls hC hP hD hS hl
  · rw [if_neg hc] at hq
    exact h2 q hq p e s m args below meth c H locs ls hC hP hD hS hl
theorem gm_if_eq_T {x : Int32} {off : Int} {tgt : Nat} (hd : decode cc pc = .ok (.ifCond .eq off, 3)) (ht : (pc : Int) + off = (tgt : Int)) (hc : x = 0) (h : Gm l E cc nL own rt R en (res) (w) (tgt) (lv) (st)) : Gm l E cc nL own rt R en (res) (w) (pc) (lv) (.int x :: st) := by
  intro q hq p e s m args below meth c H locs ls hC hP hD hS hl
  exact lv_if_eq hC.1 hC.2.1 hd ht (fun _ => h q hq p e s m args below meth c H locs ls hC hP hD hS hl) (fun hn => absurd hc hn)
theorem gm_if_eq_F {x : Int32} {off : Int} {tgt : Nat} (hd : decode cc pc = .ok (.ifCond .eq off, 3)) (ht : (pc : Int) + off = (tgt : Int)) (hc : ¬ x = 0) (h : Gm l E cc nL own rt R en (res) (w) (pc + 3) (lv) (st)) : Gm l E cc nL own rt R en (res) (w) (pc) (lv) (.int x :: st) := by
  intro q hq p e s m args below meth c H locs ls hC hP hD hS hl
  exact lv_if_eq hC.1 hC.2.1 hd ht (fun hn => absurd hn hc) (fun _ => h q hq p e s m args below meth c H locs ls hC hP hD hS hl)
theorem gm_icmp_eq {x y : Int32} {off : Int} {tgt : Nat} (hd : decode cc pc = .ok (.if_icmp .eq off, 3)) (ht : (pc : Int) + off = (tgt : Int)) (h1 : Gm l E cc nL own rt R en (A) (w) (tgt) (lv) (st)) (h2 : Gm l E cc nL own rt R en (B) (w) (pc + 3) (lv) (st)) : Gm l E cc nL own rt R en (if x = y then A else B) (w) (pc) (lv) (.int y :: .int x :: st) := by
  intro q hq p e s m args below meth c H locs ls hC hP hD hS hl
  refine lv_icmp_eq hC.1 hC.2.1 hd ht (fun hc => ?_) (fun hc => ?_)
  · rw [if_pos hc] at hq
    exact h1 q hq p e s m args below meth c H locs ls hC hP hD hS hl
  · rw [if_neg hc] at hq
    exact h2 q hq p e s m args below meth c H locs ls hC hP hD hS hl
theorem gm_icmp_eq_T {x y : Int32} {off : Int} {tgt : Nat} (hd : decode cc pc = .ok (.if_icmp .eq off, 3)) (ht : (pc : Int) + off = (tgt : Int)) (hc : x = y) (h : Gm l E cc nL own rt R en (res) (w) (tgt) (lv) (st)) : Gm l E cc nL own rt R en (res) (w) (pc) (lv) (.int y :: .int x :: st) := by
  intro q hq p e s m args below meth c H locs ls hC hP hD hS hl
  exact lv_icmp_eq hC.1 hC.2.1 hd ht (fun _ => h q hq p e s m args below meth c H locs ls hC hP hD hS hl) (fun hn => absurd hc hn)
theorem gm_icmp_eq_F {x y : Int32} {off : Int} {tgt : Nat} (hd : decode cc pc = .ok (.if_icmp .eq off, 3)) (ht : (pc : Int) + off = (tgt : Int)) (hc : ¬ x = y) (h : Gm l E cc nL own rt R en (res) (w) (pc + 3) (lv) (st)) : Gm l E cc nL own rt R en (res) (w) (pc) (lv) (.int y :: .int x :: st) := by
  intro q hq p e s m args below meth c H locs ls hC hP hD hS hl
  exact lv_icmp_eq hC.1 hC.2.1 hd ht (fun hn => absurd hn hc) (fun _ => h q hq p e s m args below meth c H locs ls hC hP hD hS hl)
theorem gm_if_lt {x : Int32} {off : Int} {tgt : Nat} (hd : decode cc pc = .ok (.ifCond .lt off, 3)) (ht : (pc : Int) + off = (tgt : Int)) (h1 : Gm l E cc nL own rt R en (A) (w) (tgt) (lv) (st)) (h2 : Gm l E cc nL own rt R en (B) (w) (pc + 3) (lv) (st)) : Gm l E cc nL own rt R en (if x < 0 then A else B) (w) (pc) (lv) (.int x :: st) := by
  intro q hq p e s m args below meth c H locs ls hC hP hD hS hl
  refine lv_if_lt hC.1 hC.2.1 hd ht (fun hc => ?_) (fun hc => ?_)
  · rw [if_pos hc] at hq
    exact h1 q hq p e s m args below meth c H locs ls hC hP hD hS hl
  · rw [if_neg hc] at hq
    exact h2 q hq p e s m args below meth c H locs ls hC hP hD hS hl
theorem gm_if_lt_T {x : Int32} {off : Int} {tgt : Nat} (hd : decode cc pc = .ok (.ifCond .lt off, 3)) (ht : (pc : Int) + off = (tgt : Int)) (hc : x < 0) (h : Gm l E cc nL own rt R en (res) (w) (tgt) (lv) (st)) : Gm l E cc nL own rt R en (res) (w) (pc) (lv) (.int x :: st) := by
  intro q hq p e s m args below meth c H locs ls hC hP hD hS hl
  exact lv_if_lt hC.1 hC.2.1 hd ht (fun _ => h q hq p e s m args below meth c H locs ls hC hP hD hS hl) (fun hn => absurd hc hn)
theorem gm_if_lt_F {x : Int32} {off : Int} {tgt : Nat} (hd : decode cc pc = .ok (.ifCond .lt off, 3)) (ht : (pc : Int) + off = (tgt : Int)) (hc : ¬ x < 0) (h : Gm l E cc nL own rt R en (res) (w) (pc + 3) (lv) (st)) : Gm l E cc nL own rt R en (res) (w) (pc) (lv) (.int x :: st) := by
  intro q hq p e s m args below meth c H locs ls hC hP hD hS hl
  exact lv_if_lt hC.1 hC.2.1 hd ht (fun hn => absurd hn hc) (fun _ => h q hq p e s m args below meth c H locs ls hC hP hD hS hl)
theorem gm_icmp_lt {x y : Int32} {off : Int} {tgt : Nat} (hd : decode cc pc = .ok (.if_icmp .lt off, 3)) (ht : (pc : Int) + off = (tgt : Int)) (h1 : Gm l E cc nL own rt R en (A) (w) (tgt) (lv) (st)) (h2 : Gm l E cc nL own rt R en (B) (w) (pc + 3) (lv) (st)) : Gm l E cc nL own rt R en (if x < y then A else B) (w) (pc) (lv) (.int y :: .int x :: st) := by
  intro q hq p e s m args below meth c H locs ls hC hP hD hS hl
  refine lv_icmp_lt hC.1 hC.2.1 hd ht (fun hc => ?_) (fun hc => ?_)
  · rw [if_pos hc] at hq
    exact h1 q hq p e s m args below meth c H locs ls hC hP hD hS hl
  · rw [if_neg hc] at hq
    exact h2 q hq p e s m args below meth c H locs ls hC hP hD hS hl
theorem gm_icmp_lt_T {x y : Int32} {off : Int} {tgt : Nat} (hd : decode cc pc = .ok (.if_icmp .lt off, 3)) (ht : (pc : Int) + off = (tgt : Int)) (hc : x < y) (h : Gm l E cc nL own rt R en (res) (w) (tgt) (lv) (st)) : Gm l E cc nL own rt R en (res) (w) (pc) (lv) (.int y :: .int x :: st) := by
  intro q hq p e s m args below meth c H locs ls hC hP hD hS hl
  exact lv_icmp_lt hC.1 hC.2.1 hd ht (fun _ => h q hq p e s m args below meth c H locs ls hC hP hD hS hl) (fun hn => absurd hc hn)
theorem gm_icmp_lt_F {x y : Int32} {off : Int} {tgt : Nat} (hd : decode cc pc = .ok (.if_icmp .lt off, 3)) (ht : (pc : Int) + off = (tgt : Int)) (hc : ¬ x < y) (h : Gm l E cc nL own rt R en (res) (w) (pc + 3) (lv) (st)) : Gm l E cc nL own rt R en (res) (w) (pc) (lv) (.int y :: .int x :: st) := by
  intro q hq p e s m args below meth c H locs ls hC hP hD hS hl
  exact lv_icmp_lt hC.1 hC.2.1 hd ht (fun hn => absurd hn hc) (fun _ => h q hq p e s m args below meth c H locs ls hC hP hD hS hl)
theorem gm_if_ge {x : Int32} {off : Int} {tgt : Nat} (hd : decode cc pc = .ok (.ifCond .ge off, 3)) (ht : (pc : Int) + off = (tgt : Int)) (h1 : Gm l E cc nL own rt R en (A) (w) (tgt) (lv) (st)) (h2 : Gm l E cc nL own rt R en (B) (w) (pc + 3) (lv) (st)) : Gm l E cc nL own rt R en (if 0 ≤ x then A else B) (w) (pc) (lv) (.int x :: st) := by
  intro q hq p e s m args below meth c H locs ls hC hP hD hS hl
  refine lv_if_ge hC.1 hC.2.1 hd ht (fun hc => ?_) (fun hc => ?_)
  · rw [if_pos hc] at hq
    exact h1 q hq p e s m args below meth c H locs ls hC hP hD hS hl
  · rw [if_neg hc] at hq
    exact h2 q hq p e s m args below meth c H locs ls hC hP hD hS hl
theorem gm_if_ge_T {x : Int32} {off : Int} {tgt : Nat} (hd : decode cc pc = .ok (.ifCond .ge off, 3)) (ht : (pc : Int) + off = (tgt : Int)) (hc : 0 ≤ x) (h : Gm l E cc nL own rt R en (res) (w) (tgt) (lv) (st)) : Gm l E cc nL own rt R en (res) (w) (pc) (lv) (.int x :: st) := by
  intro q hq p e s m args below meth c H locs ls hC hP hD hS hl
  exact lv_if_ge hC.1 hC.2.1 hd ht (fun _ => h q hq p e s m args below meth c H locs ls hC hP hD hS hl) (fun hn => absurd hc hn)
theorem gm_if_ge_F {x : Int32} {off : Int} {tgt : Nat} (hd : decode cc pc = .ok (.ifCond .ge off, 3)) (ht : (pc : Int) + off = (tgt : Int)) (hc : ¬ 0 ≤ x) (h : Gm l E cc nL own rt R en (res) (w) (pc + 3) (lv) (st)) : Gm l E cc nL own rt R en (res) (w) (pc) (lv) (.int x :: st) := by
  intro q hq p e s m args below meth c H locs ls hC hP hD hS hl
  exact lv_if_ge hC.1 hC.2.1 hd ht (fun hn => absurd hn hc) (fun _ => h q hq p e s m args below meth c H locs ls hC hP hD hS hl)
theorem gm_icmp_ge {x y : Int32} {off : Int} {tgt : Nat} (hd : decode cc pc = .ok (.if_icmp .ge off, 3)) (ht : (pc : Int) + off = (tgt : Int)) (h1 : Gm l E cc nL own rt R en (A) (w) (tgt) (lv) (st)) (h2 : Gm l E cc nL own rt R en (B) (w) (pc + 3) (lv) (st)) : Gm l E cc nL own rt R en (if y ≤ x then A else B) (w) (pc) (lv) (.int y :: .int x :: st) := by
  intro q hq p e s m args below meth c H locs ls hC hP hD hS hl
  refine lv_icmp_ge hC.1 hC.2.1 hd ht (fun hc => ?_) (fun hc => ?_)
  · rw [if_pos hc] at hq
    exact h1 q hq p e s m args below meth c H locs ls hC hP hD hS hl
  · rw [if_neg hc] at hq
    exact h2 q hq p e s m args below meth c H locs ls hC hP hD hS hl
theorem gm_icmp_ge_T {x y : Int32} {off : Int} {tgt : Nat} (hd : decode cc pc = .ok (.if_icmp .ge off, 3)) (ht : (pc : Int) + off = (tgt : Int)) (hc : y ≤ x) (h : Gm l E cc nL own rt R en (res) (w) (tgt) (lv) (st)) : Gm l E cc nL own rt R en (res) (w) (pc) (lv) (.int y :: .int x :: st) := by
  intro q hq p e s m args below meth c H locs ls hC hP hD hS hl
  exact lv_icmp_ge hC.1 hC.2.1 hd ht (fun _ => h q hq p e s m args below meth c H locs ls hC hP hD hS hl) (fun hn => absurd hc hn)
theorem gm_icmp_ge_F {x y : Int32} {off : Int} {tgt : Nat} (hd : decode cc pc = .ok (.if_icmp .ge off, 3)) (ht : (pc : Int) + off = (tgt : Int)) (hc : ¬ y ≤ x) (h : Gm l E cc nL own rt R en (res) (w) (pc + 3) (lv) (st)) : Gm l E cc nL own rt R en (res) (w) (pc) (lv) (.int y :: .int x :: st) := by
  intro q hq p e s m args below meth c H locs ls hC hP hD hS hl
  exact lv_icmp_ge hC.1 hC.2.1 hd ht (fun hn => absurd hn hc) (fun _ => h q hq p e s m args below meth c H locs ls hC hP hD hS hl)
theorem gm_if_gt {x : Int32} {off : Int} {tgt : Nat} (hd : decode cc pc = .ok (.ifCond .gt off, 3)) (ht : (pc : Int) + off = (tgt : Int)) (h1 : Gm l E cc nL own rt R en (A) (w) (tgt) (lv) (st)) (h2 : Gm l E cc nL own rt R en (B) (w) (pc + 3) (lv) (st)) : Gm l E cc nL own rt R en (if 0 < x then A else B) (w) (pc) (lv) (.int x :: st) := by
  intro q hq p e s m args below meth c H locs ls hC hP hD hS hl
  refine lv_if_gt hC.1 hC.2.1 hd ht (fun hc => ?_) (fun hc => ?_)
  · rw [if_pos hc] at hq
    exact h1 q hq p e s m args below meth c H locs ls hC hP hD hS hl
  · rw [if_neg hc] at hq
    exact h2 q hq p e s m args below meth c H locs ls hC hP hD hS hl
theorem gm_if_gt_T {x : Int32} {off : Int} {tgt : Nat} (hd : decode cc pc = .ok (.ifCond .gt off, 3)) (ht : (pc : Int) + off = (tgt : Int)) (hc : 0 < x) (h : Gm l E cc nL own rt R en (res) (w) (tgt) (lv) (st)) : Gm l E cc nL own rt R en (res) (w) (pc) (lv) (.int x :: st) := by
  intro q hq p e s m args below meth c H locs ls hC hP hD hS hl
  exact lv_if_gt hC.1 hC.2.1 hd ht (fun _ => h q hq p e s m args below meth c H locs ls hC hP hD hS hl) (fun hn => absurd hc hn)
theorem gm_if_gt_F {x : Int32} {off : Int} {tgt : Nat} (hd : decode cc pc = .ok (.ifCond .gt off, 3)) (ht : (pc : Int) + off = (tgt : Int)) (hc : ¬ 0 < x) (h : Gm l E cc nL own rt R en (res) (w) (pc + 3) (lv) (st)) : Gm l E cc nL own rt R en (res) (w) (pc) (lv) (.int x :: st) := by
  intro q hq p e s m args below meth c H locs ls hC hP hD hS hl
  exact lv_if_gt hC.1 hC.2.1 hd ht (fun hn => absurd hn hc) (fun _ => h q hq p e s m args below meth c H locs ls hC hP hD hS hl)
theorem gm_icmp_gt {x y : Int32} {off : Int} {tgt : Nat} (hd : decode cc pc = .ok (.if_icmp .gt off, 3)) (ht : (pc : Int) + off = (tgt : Int)) (h1 : Gm l E cc nL own rt R en (A) (w) (tgt) (lv) (st)) (h2 : Gm l E cc nL own rt R en (B) (w) (pc + 3) (lv) (st)) : Gm l E cc nL own rt R en (if y < x then A else B) (w) (pc) (lv) (.int y :: .int x :: st) := by
  intro q hq p e s m args below meth c H locs ls hC hP hD hS hl
  refine lv_icmp_gt hC.1 hC.2.1 hd ht (fun hc => ?_) (fun hc => ?_)
  · rw [if_pos hc] at hq
    exact h1 q hq p e s m args below meth c H locs ls hC hP hD hS hl
  · rw [if_neg hc] at hq
    exact h2 q hq p e s m args below meth c H locs ls hC hP hD hS hl
theorem gm_icmp_gt_T {x y : Int32} {off : Int} {tgt : Nat} (hd : decode cc pc = .ok (.if_icmp .gt off, 3)) (ht : (pc : Int) + off = (tgt : Int)) (hc : y < x) (h : Gm l E cc nL own rt R en (res) (w) (tgt) (lv) (st)) : Gm l E cc nL own rt R en (res) (w) (pc) (lv) (.int y :: .int x :: st) := by
  intro q hq p e s m args below meth c H locs ls hC hP hD hS hl
  exact lv_icmp_gt hC.1 hC.2.1 hd ht (fun _ => h q hq p e s m args below meth c H locs ls hC hP hD hS hl) (fun hn => absurd hc hn)
theorem gm_icmp_gt_F {x y : Int32} {off : Int} {tgt : Nat} (hd : decode cc pc = .ok (.if_icmp .gt off, 3)) (ht : (pc : Int) + off = (tgt : Int)) (hc : ¬ y < x) (h : Gm l E cc nL own rt R en (res) (w) (pc + 3) (lv) (st)) : Gm l E cc nL own rt R en (res) (w) (pc) (lv) (.int y :: .int x :: st) := by
  intro q hq p e s m args below meth c H locs ls hC hP hD hS hl
  exact lv_icmp_gt hC.1 hC.2.1 hd ht (fun hn => absurd hn hc) (fun _ => h q hq p e s m args below meth c H locs ls hC hP hD hS hl)
theorem gm_if_le {x : Int32} {off : Int} {tgt : Nat} (hd : decode cc pc = .ok (.ifCond .le off, 3)) (ht : (pc : Int) + off = (tgt : Int)) (h1 : Gm l E cc nL own rt R en (A) (w) (tgt) (lv) (st)) (h2 : Gm l E cc nL own rt R en (B) (w) (pc + 3) (lv) (st)) : Gm l E cc nL own rt R en (if x ≤ 0 then A else B) (w) (pc) (lv) (.int x :: st) := by
  intro q hq p e s m args below meth c H locs ls hC hP hD hS hl
  refine lv_if_le hC.1 hC.2.1 hd ht (fun hc => ?_) (fun hc => ?_)
  · rw [if_pos hc] at hq
    exact h1 q hq p e s m args below meth c H locs ls hC hP hD hS hl
  · rw [if_neg hc] at hq
    exact h2 q hq p e s m args below meth c H locs ls hC hP hD hS hl
theorem gm_if_le_T {x : Int32} {off : Int} {tgt : Nat} (hd : decode cc pc = .ok (.ifCond .le off, 3)) (ht : (pc : Int) + off = (tgt : Int)) (hc : x ≤ 0) (h : Gm l E cc nL own rt R en (res) (w) (tgt) (lv) (st)) : Gm l E cc nL own rt R en (res) (w) (pc) (lv) (.int x :: st) := by
  intro q hq p e s m args below meth c H locs ls hC hP hD hS hl
  exact lv_if_le hC.1 hC.2.1 hd ht (fun _ => h q hq p e s m args below meth c H locs ls hC hP hD hS hl) (fun hn => absurd hc hn)
theorem gm_if_le_F {x : Int32} {off : Int} {tgt : Nat} (hd : decode cc pc = .ok (.ifCond .le off, 3)) (ht : (pc : Int) + off = (tgt : Int)) (hc : ¬ x ≤ 0) (h : Gm l E cc nL own rt R en (res) (w) (pc + 3) (lv) (st)) : Gm l E cc nL own rt R en (res) (w) (pc) (lv) (.int x :: st) := by
  intro q hq p e s m args below meth c H locs ls hC hP hD hS hl
  exact lv_if_le hC.1 hC.2.1 hd ht (fun hn => absurd hn hc) (fun _ => h q hq p e s m args below meth c H locs ls hC hP hD hS hl)
theorem gm_icmp_le {x y : Int32} {off : Int} {tgt : Nat} (hd : decode cc pc = .ok (.if_icmp .le off, 3)) (ht : (pc : Int) + off = (tgt : Int)) (h1 : Gm l E cc nL own rt R en (A) (w) (tgt) (lv) (st)) (h2 : Gm l E cc nL own rt R en (B) (w) (pc + 3) (lv) (st)) : Gm l E cc nL own rt R en (if x ≤ y then A else B) (w) (pc) (lv) (.int y :: .int x :: st) := by
  intro q hq p e s m args below meth c H locs ls hC hP hD hS hl
  refine lv_icmp_le hC.1 hC.2.1 hd ht (fun hc => ?_) (fun hc => ?_)
  · rw [if_pos hc] at hq
    exact h1 q hq p e s m args below meth c H locs ls hC hP hD hS hl
  · rw [if_neg hc] at hq
    exact h2 q hq p e s m args below meth c H locs ls hC hP hD hS hl
theorem gm_icmp_le_T {x y : Int32} {off : Int} {tgt : Nat} (hd : decode cc pc = .ok (.if_icmp .le off, 3)) (ht : (pc : Int) + off = (tgt : Int)) (hc : x ≤ y) (h : Gm l E cc nL own rt R en (res) (w) (tgt) (lv) (st)) : Gm l E cc nL own rt R en (res) (w) (pc) (lv) (.int y :: .int x :: st) := by
  intro q hq p e s m args below meth c H locs ls hC hP hD hS hl
  exact lv_icmp_le hC.1 hC.2.1 hd ht (fun _ => h q hq p e s m args below meth c H locs ls hC hP hD hS hl) (fun hn => absurd hc hn)
theorem gm_icmp_le_F {x y : Int32} {off : Int} {tgt : Nat} (hd : decode cc pc = .ok (.if_icmp .le off, 3)) (ht : (pc : Int) + off = (tgt : Int)) (hc : ¬ x ≤ y) (h : Gm l E cc nL own rt R en (res) (w) (pc + 3) (lv) (st)) : Gm l E cc nL own rt R en (res) (w) (pc) (lv) (.int y :: .int x :: st) := by
  intro q hq p e s m args below meth c H locs ls hC hP hD hS hl
  exact lv_icmp_le hC.1 hC.2.1 hd ht (fun hn => absurd hn hc) (fun _ => h q hq p e s m args below meth c H locs ls hC hP hD hS hl)
theorem gm_if_ne {x : Int32} {off : Int} {tgt : Nat} (hd : decode cc pc = .ok (.ifCond .ne off, 3)) (ht : (pc : Int) + off = (tgt : Int)) (h1 : Gm l E cc nL own rt R en (A) (w) (tgt) (lv) (st)) (h2 : Gm l E cc nL own rt R en (B) (w) (pc + 3) (lv) (st)) : Gm l E cc nL own rt R en (if x = 0 then B else A) (w) (pc) (lv) (.int x :: st) := by
  intro q hq p e s m args below meth c H locs ls hC hP hD hS hl
  refine lv_if_ne hC.1 hC.2.1 hd ht (fun hc => ?_) (fun hc => ?_)
  · rw [if_neg hc] at hq
    exact h1 q hq p e s m args below meth c H locs ls hC hP hD hS hl
  · rw [if_pos hc] at hq
    exact h2 q hq p e s m args below meth c H locs ls hC hP hD hS hl
theorem gm_icmp_ne {x y : Int32} {off : Int} {tgt : Nat} (hd : decode cc pc = .ok (.if_icmp .ne off, 3)) (ht : (pc : Int) + off = (tgt : Int)) (h1 : Gm l E cc nL own rt R en (A) (w) (tgt) (lv) (st)) (h2 : Gm l E cc nL own rt R en (B) (w) (pc + 3) (lv) (st)) : Gm l E cc nL own rt R en (if x = y then B else A) (w) (pc) (lv) (.int y :: .int x :: st) := by
  intro q hq p e s m args below meth c H locs ls hC hP hD hS hl
  refine lv_icmp_ne hC.1 hC.2.1 hd ht (fun hc => ?_) (fun hc => ?_)
  · rw [if_neg hc] at hq
    exact h1 q hq p e s m args below meth c H locs ls hC hP hD hS hl
  · rw [if_pos hc] at hq
    exact h2 q hq p e s m args below meth c H locs ls hC hP hD hS hl
theorem gm_goto {off : Int} {tgt : Nat} (hd : decode cc pc = .ok (.goto off, 3)) (ht : (pc : Int) + off = (tgt : Int)) (h : Gm l E cc nL own rt R en (res) (w) (tgt) (lv) (st)) : Gm l E cc nL own rt R en (res) (w) (pc) (lv) (st) := by
  intro q hq p e s m args below meth c H locs ls hC hP hD hS hl
  exact lv_goto hC.1 hC.2.1 hd ht (h q hq p e s m args below meth c H locs ls hC hP hD hS hl)
theorem gm_ifnull {x : Nat} {off : Int} (hd : decode cc pc = .ok (.ifnull off, 3)) (h : Gm l E cc nL own rt R en (res) (w) (pc + 3) (lv) (st)) : Gm l E cc nL own rt R en (res) (w) (pc) (lv) (.ref x :: st) := by
  intro q hq p e s m args below meth c H locs ls hC hP hD hS hl
  exact lv_ifnull hC.1 hC.2.1 hd (h q hq p e s m args below meth c H locs ls hC hP hD hS hl)
theorem gm_tblOut {dflt lo hi : Int} {offs : Array Int} {len : Nat} {x : Int32} {tgt : Nat} (hd : decode cc pc = .ok (.tableswitch dflt lo hi offs, len)) (ht : (pc : Int) + dflt = (tgt : Int)) (hc : x.toInt < lo ∨ hi < x.toInt) (h : Gm l E cc nL own rt R en (res) (w) (tgt) (lv) (st)) : Gm l E cc nL own rt R en (res) (w) (pc) (lv) (.int x :: st) := by
  intro q hq p e s m args below meth c H locs ls hC hP hD hS hl
  exact lv_tableOut hC.1 hC.2.1 hd hc ht (h q hq p e s m args below meth c H locs ls hC hP hD hS hl)
theorem gm_tblIn {dflt lo hi : Int} {offs : Array Int} {len : Nat} {x : Int32} {off : Int} {tgt : Nat} (hd : decode cc pc = .ok (.tableswitch dflt lo hi offs, len)) (h1 : ¬ x.toInt < lo) (h2 : ¬ hi < x.toInt) (ho : offs[(x.toInt - lo).toNat]? = some off) (ht : (pc : Int) + off = (tgt : Int)) (h : Gm l E cc nL own rt R en (res) (w) (tgt) (lv) (st)) : Gm l E cc nL own rt R en (res) (w) (pc) (lv) (.int x :: st) := by
  intro q hq p e s m args below meth c H locs ls hC hP hD hS hl
  exact lv_tableIn hC.1 hC.2.1 hd h1 h2 ho ht (h q hq p e s m args below meth c H locs ls hC hP hD hS hl)
theorem gm_leti {x : Int32} {K : Int32 → Option (α × Wd)} {st0 : List Value} {f : Int32 → List (Option Value)} (h : ∀ y, Gm l E cc nL own rt R en (K y) (w) (pc) (f y) (st0)) : Gm l E cc nL own rt R en (leti x K) (w) (pc) (f x) (st0) := h x
theorem gm_leti_st {x : Int32} {K : Int32 → Option (α × Wd)} (h : ∀ y, Gm l E cc nL own rt R en (K y) (w) (pc) (lv) (.int y :: st)) : Gm l E cc nL own rt R en (leti x K) (w) (pc) (lv) (.int x :: st) := h x
theorem gm_letl_st {x : Int64} {K : Int64 → Option (α × Wd)} (h : ∀ y, Gm l E cc nL own rt R en (K y) (w) (pc) (lv) (.long y :: st)) : Gm l E cc nL own rt R en (letl x K) (w) (pc) (lv) (.long x :: st) := h x
theorem gm_letw {w0 : Wd} {K : Wd → Option (α × Wd)} (h : ∀ y, Gm l E cc nL own rt R en (K y) (y) (pc) (lv) (st)) : Gm l E cc nL own rt R en (letw w0 K) (w0) (pc) (lv) (st) := h w0
theorem gm_none {lv : List (Option Value)} : Gm l E cc nL own rt R en (none) (w) (pc) (lv) (st) := by
  intro q hq; cases hq
theorem gm_guard {c : Prop} [Decidable c] (h : c → Gm l E cc nL own rt R en (res) (w) (pc) (lv) (st)) : Gm l E cc nL own rt R en (if c then res else none) (w) (pc) (lv) (st) := by
  intro q hq
  by_cases hc : c
  · rw [if_pos hc] at hq; exact h hc q hq
  · rw [if_neg hc] at hq; cases hq
theorem gm_get {g cl ci idx N : Nat} {C ref : String} {T : u_T} {fs : (Nat → Int32) → List Value} {v : Value} (hd : decode cc pc = .ok (.getfield idx, 3)) (ho : OB E g cl ci fs) (hc : vwCl[ci]? = some (C, T, N)) (hin : ∀ w ∈ u_ws C T N, w ∈ gwl) (k : Nat) (hk : k < N) (hlk : Cond.fieldLink own idx ref (T k).2.1 (T k).2.2.1 ∈ lw_tbl) (href : (T k).1 = ref) (hv : (fs (w g cl))[k]? = some v) (h : Gm l E cc nL own rt R en (res) (w) (pc + 3) (lv) (v :: st)) : Gm l E cc nL own rt R en (res) (w) (pc) (lv) (.ref (E.1 g cl) :: st) := by
  intro q hq p e s m args below meth c H locs ls hC hP hD hS hl
  subst href
  obtain ⟨k0, hk0⟩ := List.getElem?_of_mem ho.1
  have he := wl_at (E := E) (w := w) hk0
  rw [ho.2] at he
  exact va_get hC.1 hC.2.1 hC.2.2.2.2.1 hin hC.2.2.2.1 hC.2.2.2.2.2.2.2.2 hP k0 he hc k hk (hC.2.2.2.2.1 _ (gw_in hlk rfl)) (fun _ h9 => h9) hv hd (h q hq p e s m args below meth c H locs ls hC hP hD hS hl)
theorem gm_put {g cl ci idx N : Nat} {C ref : String} {T : u_T} {fs : (Nat → Int32) → List Value} {x : Int32} {K : Wd → Option (α × Wd)} (hd : decode cc pc = .ok (.putfield idx, 3)) (ho : OB E g cl ci fs) (hc : vwCl[ci]? = some (C, T, N)) (hin : ∀ w ∈ u_ws C T N, w ∈ gwl) (ty0 : Nat → FieldType) (hty : ∀ k, k < N → parseFieldDescriptor (T k).2.2.1 = some (ty0 k)) (hnm : ∀ a, a < N → ∀ b, b < N → a ≠ b → (T a).2.1 ≠ (T b).2.1) (k : Nat) (hk : k < N) (hlk : Cond.fieldLink own idx ref (T k).2.1 (T k).2.2.1 ∈ lw_tbl) (href : (T k).1 = ref) (hfin : (T k).2.2.2 = false) (hpd : parseFieldDescriptor (T k).2.2.1 = some .int) (hlen : ∀ r, k < (fs r).length) (hset : ∀ r, fs (upd r k x) = (fs r).set k (.int x)) (h : ∀ w1, Gm l E cc nL own rt R en (K w1) (w1) (pc + 3) (lv) (st)) : Gm l E cc nL own rt R en (letw (wup w g cl k x) K) (w) (pc) (lv) (.int x :: .ref (E.1 g cl) :: st) := by
  intro q hq p e s m args below meth c H locs ls hC hP hD hS hl
  subst href
  obtain ⟨k0, hk0⟩ := List.getElem?_of_mem ho.1
  have he := wl_at (E := E) (w := w) hk0
  rw [ho.2] at he
  refine va_put hC.1 hC.2.1 hC.2.2.2.2.1 hin ty0 hty hnm hC.2.2.2.1 hC.2.2.2.2.2.2.2.2 hP hD hS k0 he hc k hk (hC.2.2.2.2.1 _ (gw_in hlk rfl)) (fun _ h9 => h9) hfin hpd rfl rfl (hlen _) hd (fun H locs hP hD2 hS => ?_)
  have hs : (wl E w).set k0 (E.1 g cl, .inr (ci, (fs (w g cl)).set k (.int x))) = wl E (wup w g cl k x) := by
    rw [← hset, ← ho.2]
    exact wl_set hk0 hD _
  rw [hs] at hP hD2
  exact h (wup w g cl k x) q hq p e s m args below meth c H locs ls hC hP hD2 hS hl
theorem gm_iald {g cl n : Nat} {i : Int32} (hd : decode cc pc = .ok (.iaload, 1)) (ha : AI E g cl n) (h : Gm l E cc nL own rt R en (res) (w) (pc + 1) (lv) (.int (w g cl i.toNatClampNeg) :: st)) : Gm l E cc nL own rt R en (if ib i n = true then res else none) (w) (pc) (lv) (.int i :: .ref (E.1 g cl) :: st) := by
  intro q hq p e s m args below meth c H locs ls hC hP hD hS hl
  by_cases hb : ib i n = true
  · rw [if_pos hb] at hq
    obtain ⟨k0, hk0⟩ := List.getElem?_of_mem ha.1
    have he := wl_at (E := E) (w := w) hk0
    rw [ha.2] at he
    exact va_iald hC.1 hC.2.1 hC.2.2.2.2.2.2.2.2 hP k0 0 he rfl (ib_in hb) hd (h q hq p e s m args below meth c H locs ls hC hP hD hS hl)
  · rw [if_neg hb] at hq; cases hq
theorem gm_cald {g cl n : Nat} {i : Int32} (hd : decode cc pc = .ok (.caload, 1)) (ha : AC E g cl n) (h : Gm l E cc nL own rt R en (res) (w) (pc + 1) (lv) (.int (w g cl i.toNatClampNeg) :: st)) : Gm l E cc nL own rt R en (if ib i n = true then res else none) (w) (pc) (lv) (.int i :: .ref (E.1 g cl) :: st) := by
  intro q hq p e s m args below meth c H locs ls hC hP hD hS hl
  by_cases hb : ib i n = true
  · rw [if_pos hb] at hq
    obtain ⟨k0, hk0⟩ := List.getElem?_of_mem ha.1
    have he := wl_at (E := E) (w := w) hk0
    rw [ha.2] at he
    exact va_cald hC.1 hC.2.1 hC.2.2.2.2.2.2.2.2 hP k0 1 he rfl (ib_in hb) hd (h q hq p e s m args below meth c H locs ls hC hP hD hS hl)
  · rw [if_neg hb] at hq; cases hq
theorem gm_iast {g cl n : Nat} {i x : Int32} {K : Wd → Option (α × Wd)} (hd : decode cc pc = .ok (.iastore, 1)) (ha : AI E g cl n) (h : ∀ w1, Gm l E cc nL own rt R en (K w1) (w1) (pc + 1) (lv) (st)) : Gm l E cc nL own rt R en (if ib i n = true then letw (wup w g cl i.toNatClampNeg x) K else none) (w) (pc) (lv) (.int x :: .int i :: .ref (E.1 g cl) :: st) := by
  intro q hq p e s m args below meth c H locs ls hC hP hD hS hl
  by_cases hb : ib i n = true
  · rw [if_pos hb] at hq
    obtain ⟨k0, hk0⟩ := List.getElem?_of_mem ha.1
    have he := wl_at (E := E) (w := w) hk0
    rw [ha.2] at he
    refine va_iast hC.1 hC.2.1 hC.2.2.2.2.2.2.2.2 hP hD hS k0 0 he rfl (ib_in hb) hd (fun H locs hP hD2 hS => ?_)
    have hs := wl_set hk0 hD (upd (w g cl) i.toNatClampNeg x)
    rw [ha.2] at hs
    rw [hs] at hP hD2
    exact h _ q hq p e s m args below meth c H locs ls hC hP hD2 hS hl
  · rw [if_neg hb] at hq; cases hq
theorem gm_cast {g cl n : Nat} {i x : Int32} {K : Wd → Option (α × Wd)} (hd : decode cc pc = .ok (.castore, 1)) (ha : AC E g cl n) (h : ∀ w1, Gm l E cc nL own rt R en (K w1) (w1) (pc + 1) (lv) (st)) : Gm l E cc nL own rt R en (if ib i n = true then letw (wup w g cl i.toNatClampNeg (vp_nar .char x)) K else none) (w) (pc) (lv) (.int x :: .int i :: .ref (E.1 g cl) :: st) := by
  intro q hq p e s m args below meth c H locs ls hC hP hD hS hl
  by_cases hb : ib i n = true
  · rw [if_pos hb] at hq
    obtain ⟨k0, hk0⟩ := List.getElem?_of_mem ha.1
    have he := wl_at (E := E) (w := w) hk0
    rw [ha.2] at he
    refine va_cast hC.1 hC.2.1 hC.2.2.2.2.2.2.2.2 hP hD hS k0 1 he rfl (ib_in hb) hd (fun H locs hP hD2 hS => ?_)
    have hs := wl_set hk0 hD (upd (w g cl) i.toNatClampNeg (vp_nar .char x))
    rw [ha.2] at hs
    rw [hs] at hP hD2
    exact h _ q hq p e s m args below meth c H locs ls hC hP hD2 hS hl
  · rw [if_neg hb] at hq; cases hq
theorem gm_aald {g cl n : Nat} {f : Nat → Option Nat} {i : Int32} {a : Nat} (hd : decode cc pc = .ok (.aaload, 1)) (ha : AR E g cl n f) (hf : f i.toNatClampNeg = some a) (h : Gm l E cc nL own rt R en (res) (w) (pc + 1) (lv) (.ref a :: st)) : Gm l E cc nL own rt R en (if ib i n = true then res else none) (w) (pc) (lv) (.int i :: .ref (E.1 g cl) :: st) := by
  intro q hq p e s m args below meth c H locs ls hC hP hD hS hl
  by_cases hb : ib i n = true
  · rw [if_pos hb] at hq
    obtain ⟨k0, hk0⟩ := List.getElem?_of_mem ha.1
    have he := wl_at (E := E) (w := w) hk0
    rw [ha.2] at he
    refine va_aldq hC.1 hC.2.1 hC.2.2.2.2.2.2.2.2 hP k0 2 he rfl (ib_in hb) hd ?_
    rw [hf]
    exact h q hq p e s m args below meth c H locs ls hC hP hD hS hl
  · rw [if_neg hb] at hq; cases hq
theorem gm_alen {g cl n : Nat} {v : Int32} (hd : decode cc pc = .ok (.arraylength, 1)) (ha : AI E g cl n) (hv : Int32.ofNat n = v) (h : Gm l E cc nL own rt R en (res) (w) (pc + 1) (lv) (.int v :: st)) : Gm l E cc nL own rt R en (res) (w) (pc) (lv) (.ref (E.1 g cl) :: st) := by
  intro q hq p e s m args below meth c H locs ls hC hP hD hS hl
  obtain ⟨k0, hk0⟩ := List.getElem?_of_mem ha.1
  have he := wl_at (E := E) (w := w) hk0
  rw [ha.2] at he
  exact va_alen hC.1 hC.2.1 hC.2.2.2.2.2.2.2.2 hP k0 0 he rfl hv hd (h q hq p e s m args below meth c H locs ls hC hP hD hS hl)
theorem gm_copyi {g0 c0 n0 g cl n1 idx : Nat} {sp dp n : Int32} {sp1 dp1 n2 : Nat} {K : Wd → Option (α × Wd)} (hd : decode cc pc = .ok (.invokestatic idx, 3)) (ha0 : AI E g0 c0 n0) (ha1 : AI E g cl n1) (hlk : Cond.methodLink own idx arraycopyName ∈ lw_tbl) (hna : Cond.native arraycopyName ∈ lw_tbl) (hst : Cond.static arraycopyName ∈ lw_tbl) (hini : Cond.initialized "java/lang/System" ∈ lw_tbl) (e1 : sp.toNatClampNeg = sp1) (e2 : dp.toNatClampNeg = dp1) (e3 : n.toNatClampNeg = n2) (h1 : ¬ sp < 0) (h2 : ¬ dp < 0) (h3 : ¬ n < 0) (h4 : sp1 + n2 ≤ n0) (h5 : dp1 + n2 ≤ n1) (hfr : 1 ≤ R.frames) (hlo : (st.map fun v => v.category).sum + (nativeFrameWords "java/lang/System" "arraycopy" 5 + 11) ≤ R.locals) (h : ∀ w1, Gm l E cc nL own rt R en (K w1) (w1) (pc + 3) (lv) (st)) : Gm l E cc nL own rt R en (letw (wcp w g0 c0 g cl sp1 dp1 n2) K) (w) (pc) (lv) (.int n :: .int dp :: .ref (E.1 g cl) :: .int sp :: .ref (E.1 g0 c0) :: st) := by
  intro q hq p e s m args below meth c H locs ls hC hP hD hS hl
  subst e1; subst e2; subst e3
  obtain ⟨k0, hk0⟩ := List.getElem?_of_mem ha0.1
  have he0 := wl_at (E := E) (w := w) hk0
  rw [ha0.2] at he0
  obtain ⟨k1, hk1⟩ := List.getElem?_of_mem ha1.1
  have he1 := wl_at (E := E) (w := w) hk1
  rw [ha1.2] at he1
  have hml : c.maxLocals = ls.size := hC.2.2.1.trans hl.1.symm
  refine va_copyi hC.1 hC.2.1 hml hC.2.2.2.1 (hC.2.2.2.2.1 _ (gw_in hlk rfl)) (hC.2.2.2.2.1 _ (gw_in hna rfl)) (hC.2.2.2.2.1 _ (gw_in hst rfl)) (hC.2.2.2.2.1 _ (gw_in hini rfl)) hC.2.2.2.2.2.2.2.2 hP hD hS k0 k1 0 0 he0 he1 rfl rfl rfl h1 h2 h3 h4 h5 (fun _ _ => rfl) hfr hlo hd (fun H locs hP hD2 hS => ?_)
  have hs := wl_set hk1 hD (va_cpy (w g0 c0) (w g cl) sp.toNatClampNeg dp.toNatClampNeg n.toNatClampNeg)
  rw [ha1.2] at hs
  rw [hs] at hP hD2
  exact h _ q hq p e s m args below meth c H locs ls hC hP hD2 hS hl
theorem gm_iret {x : Int32} (hd : decode cc pc = .ok (.ireturn, 1)) : Gm l E cc nL own (some .int) R eI (some (x, w)) w pc lv (.int x :: []) := by
  intro q hq p e s m args below meth c H locs ls hC hP hD hS hl
  cases hq
  exact W.iret hC.1 hC.2.1 hC.2.2.2.2.2.2.1 (fun t ht hW => ⟨rfl, by rw [ht]; exact hP, va_K.moved hW.alike hC.2.2.2.2.2.2.2.2, hD, hS.F ht⟩) hS.2.2 hd hC.2.2.2.2.2.2.2.1
theorem gm_zret {x : Int32} {ty : FieldType} (hd : decode cc pc = .ok (.ireturn, 1)) (hn : narrow ty (.int x) = .int x) : Gm l E cc nL own (some ty) R eI (some (x, w)) w pc lv (.int x :: []) := by
  intro q hq p e s m args below meth c H locs ls hC hP hD hS hl
  cases hq
  exact W.zret hC.1 hC.2.1 hC.2.2.2.2.2.2.1 hn (fun t ht hW => ⟨rfl, by rw [ht]; exact hP, va_K.moved hW.alike hC.2.2.2.2.2.2.2.2, hD, hS.F ht⟩) hS.2.2 hd hC.2.2.2.2.2.2.2.1
theorem gm_lret {x : Int64} (hd : decode cc pc = .ok (.lreturn, 1)) : Gm l E cc nL own (some .long) R eL (some (x, w)) w pc lv (.long x :: []) := by
  intro q hq p e s m args below meth c H locs ls hC hP hD hS hl
  cases hq
  exact W.lret hC.1 hC.2.1 hC.2.2.2.2.2.2.1 (fun t ht hW => ⟨rfl, by rw [ht]; exact hP, va_K.moved hW.alike hC.2.2.2.2.2.2.2.2, hD, hS.F ht⟩) hS.2.2 hd hC.2.2.2.2.2.2.2.1
theorem gm_vret  (hd : decode cc pc = .ok (.return_, 1)) : Gm l E cc nL own (none) R eV (some ((), w)) w pc lv ([]) := by
  intro q hq p e s m args below meth c H locs ls hC hP hD hS hl
  cases hq
  exact W.vret hC.1 hC.2.1 hC.2.2.2.2.2.2.1 (fun t ht hW => ⟨rfl, by rw [ht]; exact hP, va_K.moved hW.alike hC.2.2.2.2.2.2.2.2, hD, hS.F ht⟩) hS.2.2 hd hC.2.2.2.2.2.2.2.1
theorem gm_aret {g k : Nat} {C : String} (hd : decode cc pc = .ok (.areturn, 1)) : Gm l E cc nL own (some (.object C)) R (eR E k) (some (g, w)) w pc lv (.ref (E.1 g k) :: []) := by
  intro q hq p e s m args below meth c H locs ls hC hP hD hS hl
  cases hq
  exact W.aret hC.1 hC.2.1 hC.2.2.2.2.2.2.1 (Or.inl ⟨_, rfl⟩) (Or.inr ⟨_, rfl⟩) (fun t ht hW => ⟨rfl, by rw [ht]; exact hP, va_K.moved hW.alike hC.2.2.2.2.2.2.2.2, hD, hS.F ht⟩) hS.2.2 hd hC.2.2.2.2.2.2.2.1
theorem Mt.of {en : α → Option Value} {F : Option (α × Wd)} {y : MethodName} {as : List Value} (lv0 : List (Option Value)) (hy : plainName y.cls = true) (hown : y.cls = own) (hle : (lg_sl as).length ≤ nL) (hlv : lv_args 0 as = lprs 0 lv0) (h : Gm l E cc nL own rt R en F w 0 lv0 []) : ∀ q, F = some q → Mt l E y cc nL rt R as w (en q.1) q.2 := by
  intro q hq
  refine Met.ofW (cc := cc) (maxL := nL) (ret := rt) hy rfl ?_
  intro p e s m args below meth c s₁ B hml hv
  obtain ⟨rfl, hP, hK, hD, hN⟩ := hv
  rw [lg_entry_eq]
  have hl := lv_entry as hle
  rw [hlv] at hl
  exact h q hq p e s m _ below meth c s.heap [] _ ⟨B.exec, B.bytes, hml, by rw [← hown]; exact findClass_of_methodNamed B.named, fun w hw => atoms_spec (ws := .code y cc nL rt :: gwl) B.pre w (List.mem_cons_of_mem _ hw), hN, B.returns, B.notSynchronized, hK⟩ hP hD va_S.rf (has_lh hl)
theorem Mt.at {en : α → Option Value} {y : MethodName} {as : List Value} {w' : Wd} {r : α} (h : ∀ q, some (r, w') = some q → Mt l E y cc nL rt R as w (en q.1) q.2) : Mt l E y cc nL rt R as w (en r) w' := h _ rfl
/-- what the tables say of a method: instance, static -/
def CY (y : MethodName) (cc' : ByteArray) (n' : Nat) (ret' : Option FieldType) (C : String) (np : Nat) : Prop := Cond.instanceMethod y ∈ lw_tbl ∧ Cond.selects C y y ∈ lw_tbl ∧ Cond.code y cc' n' ret' ∈ lw_tbl ∧ Cond.initialized y.cls ∈ lw_tbl ∧ (y.cls ≠ "java/lang/invoke/MethodHandle" ∧ y.cls ≠ "java/lang/invoke/VarHandle" ∧ (parseMethodDescriptor y.desc).map (fun d => d.parameters.length) = some np)
def CS (y : MethodName) (cc' : ByteArray) (n' : Nat) (ret' : Option FieldType) (np : Nat) : Prop := Cond.static y ∈ lw_tbl ∧ Cond.code y cc' n' ret' ∈ lw_tbl ∧ Cond.initialized y.cls ∈ lw_tbl ∧ (y.cls ≠ "java/lang/invoke/MethodHandle" ∧ y.cls ≠ "java/lang/invoke/VarHandle" ∧ (parseMethodDescriptor y.desc).map (fun d => d.parameters.length) = some np)
def Rm (R rm : Room) (n' : Nat) : Prop := (rm.cells = 0 ∧ rm.slots = 0) ∧ rm.frames + 1 ≤ R.frames ∧ 8 + (n' + 11) + rm.locals ≤ R.locals

/-- behind a call -/
theorem gm_back {H : Heap} {locs : List Loc} {p : Program} {e : Env} {s : State} {m : MethodId} {args : Array Value} {below : List Frame} {meth : Method} {c : Code} {ls : Array Slot} {w' : Wd} {r : Option Value} {a : Array Value} {stk rest : List Value} {Q : State → Prop} (hS : va_S (AA E) s.heap H locs) (hr : va_Run p l e R s m args below meth c H locs 0 0 0 0 (F0 m pc ls stk) rest (Qm E r w' a) (AA E))
    (kk : ∀ (H1 : Heap) (locs1 : List Loc), va_P E.2.1 vwCl (wl E w') H1 → va_D (AA E) (wl E w') → va_S (AA E) s.heap H1 locs1 → W p l e R s m args below meth c H1 locs1 0 0 Q (F0 m (pc + 3) ls (r.toList ++ rest))) : W p l e R s m args below meth c H locs 0 0 Q (F0 m pc ls stk) := by
  intro T hT X
  obtain ⟨v, st₀, t, T', L, h0, X', hL, e1, e2, ⟨hv, hP, hK, hD, hz, hk⟩, st⟩ := hr T hT X
  cases hv
  rw [h0] at hz hk
  obtain ⟨t2, a1, b1⟩ := kk T'.heap (locs ++ L) (by rw [e1]; exact hP) hD ⟨Nat.le_trans hS.1 (by rw [e1]; exact hz), fun q h1 h2 => by rw [e1, hk q (Nat.lt_of_lt_of_le h1 hS.1) h2]; exact hS.2.1 q h1 h2, fun q hq => by
      rcases List.mem_append.mp hq with h | h
      · exact hS.2.2 q h
      · exact hL q h⟩ T' rfl X'
  exact ⟨t2, st t2 a1, b1⟩
theorem gm_callVi {g cl : Nat} {F : Option (Int32 × Wd)} {K : Int32 × Wd → Option (α × Wd)} {y : MethodName} {cc' : ByteArray} {n' np idx : Nat} {ret' : Option FieldType} {rm : Room} {As stk : List Value} (hd : decode cc pc = .ok (.invokevirtual idx, 3)) (hM : ∀ q1, F = some q1 → Mt l E y cc' n' ret' rm (.ref (E.1 g cl) :: As) w (eI q1.1) q1.2) {ci N : Nat} {C : String} {T : u_T} {fs : (Nat → Int32) → List Value} (ho : OB E g cl ci fs) (hc : vwCl[ci]? = some (C, T, N)) (hy : CY y cc' n' ret' C np) (hlk : Cond.methodLink own idx y ∈ lw_tbl) (hstk : stk = As.reverse ++ .ref (E.1 g cl) :: st) (hnp : As.length = np) (hro : Rm R rm n') (hst : (st.map fun v => v.category).sum ≤ 8) (h : ∀ q1, Gm l E cc nL own rt R en (K q1) (q1.2) (pc + 3) (lv) (.int q1.1 :: st)) : Gm l E cc nL own rt R en (F.bind K) (w) (pc) (lv) (stk) := by
  intro q hq p e s m args below meth c H locs ls hC hP hD hS hl
  have hp : ∀ U : State, U.heap = H → s.WarmedH U.vm → Wk E w U := fun U hU hW => ⟨by rw [hU]; exact hP, va_K.moved hW.alike hC.2.2.2.2.2.2.2.2, hD, hC.2.2.2.2.2.1.warm hW⟩
  have tb : ∀ {z : Cond}, z ∈ lw_tbl → goodWord z = true → z.before args s = true := fun h1 h2 => hC.2.2.2.2.1 _ (gw_in h1 h2)
  obtain ⟨q1, hq1, hq2⟩ := Option.bind_eq_some_iff.mp hq
  have hM := hM q1 hq1
  obtain ⟨k0, hk0⟩ := List.getElem?_of_mem ho.1
  have he := wl_at (E := E) (w := w) hk0
  rw [ho.2] at he
  have hrun := va_runV (locs := locs) (below := below) (meth := meth) (e := e) (l := l) (cells := 0) (slots := 0) (As := As) (rest := st) (g := F0 m pc ls stk) (Ts := .code y cc' n' ret' :: gwl) ⟨hC.1, hC.2.1, hC.2.2.1, hC.2.2.2.1, fun z hz => (List.mem_cons.mp hz).elim (fun e => by rw [e]; exact tb hy.2.2.1 rfl) (hC.2.2.2.2.1 z)⟩ hM ⟨callB_of np (Ts := .code y cc' n' ret' :: gwl) (fun z hz => (List.mem_cons.mp hz).elim (fun e => by rw [e]; exact tb hy.2.2.1 rfl) (hC.2.2.2.2.1 z)) (gw_good hy.2.2.1 rfl) rfl hro.1.1 hro.1.2 (tb hy.2.2.2.1 rfl) (tb hlk rfl) hy.2.2.2.2 hro.2, tb hy.1 rfl, tb hy.2.1 rfl⟩ ⟨Wk.blind, va_recv hC.2.2.2.2.2.2.2.2 hP hc he, fun U hU hW => ⟨rfl, hp U hU hW⟩⟩ rfl hnp hl.1 hstk (lv_room hst) hd ⟨Nat.zero_le _, Nat.zero_le _⟩
  exact gm_back hS hrun (fun H1 locs1 hP1 hD1 hS1 => h q1 q hq2 p e s m args below meth c H1 locs1 ls hC hP1 hD1 hS1 hl)
theorem gm_callVl {g cl : Nat} {F : Option (Int64 × Wd)} {K : Int64 × Wd → Option (α × Wd)} {y : MethodName} {cc' : ByteArray} {n' np idx : Nat} {ret' : Option FieldType} {rm : Room} {As stk : List Value} (hd : decode cc pc = .ok (.invokevirtual idx, 3)) (hM : ∀ q1, F = some q1 → Mt l E y cc' n' ret' rm (.ref (E.1 g cl) :: As) w (eL q1.1) q1.2) {ci N : Nat} {C : String} {T : u_T} {fs : (Nat → Int32) → List Value} (ho : OB E g cl ci fs) (hc : vwCl[ci]? = some (C, T, N)) (hy : CY y cc' n' ret' C np) (hlk : Cond.methodLink own idx y ∈ lw_tbl) (hstk : stk = As.reverse ++ .ref (E.1 g cl) :: st) (hnp : As.length = np) (hro : Rm R rm n') (hst : (st.map fun v => v.category).sum ≤ 8) (h : ∀ q1, Gm l E cc nL own rt R en (K q1) (q1.2) (pc + 3) (lv) (.long q1.1 :: st)) : Gm l E cc nL own rt R en (F.bind K) (w) (pc) (lv) (stk) := by
  intro q hq p e s m args below meth c H locs ls hC hP hD hS hl
  have hp : ∀ U : State, U.heap = H → s.WarmedH U.vm → Wk E w U := fun U hU hW => ⟨by rw [hU]; exact hP, va_K.moved hW.alike hC.2.2.2.2.2.2.2.2, hD, hC.2.2.2.2.2.1.warm hW⟩
  have tb : ∀ {z : Cond}, z ∈ lw_tbl → goodWord z = true → z.before args s = true := fun h1 h2 => hC.2.2.2.2.1 _ (gw_in h1 h2)
  obtain ⟨q1, hq1, hq2⟩ := Option.bind_eq_some_iff.mp hq
  have hM := hM q1 hq1
  obtain ⟨k0, hk0⟩ := List.getElem?_of_mem ho.1
  have he := wl_at (E := E) (w := w) hk0
  rw [ho.2] at he
  have hrun := va_runV (locs := locs) (below := below) (meth := meth) (e := e) (l := l) (cells := 0) (slots := 0) (As := As) (rest := st) (g := F0 m pc ls stk) (Ts := .code y cc' n' ret' :: gwl) ⟨hC.1, hC.2.1, hC.2.2.1, hC.2.2.2.1, fun z hz => (List.mem_cons.mp hz).elim (fun e => by rw [e]; exact tb hy.2.2.1 rfl) (hC.2.2.2.2.1 z)⟩ hM ⟨callB_of np (Ts := .code y cc' n' ret' :: gwl) (fun z hz => (List.mem_cons.mp hz).elim (fun e => by rw [e]; exact tb hy.2.2.1 rfl) (hC.2.2.2.2.1 z)) (gw_good hy.2.2.1 rfl) rfl hro.1.1 hro.1.2 (tb hy.2.2.2.1 rfl) (tb hlk rfl) hy.2.2.2.2 hro.2, tb hy.1 rfl, tb hy.2.1 rfl⟩ ⟨Wk.blind, va_recv hC.2.2.2.2.2.2.2.2 hP hc he, fun U hU hW => ⟨rfl, hp U hU hW⟩⟩ rfl hnp hl.1 hstk (lv_room hst) hd ⟨Nat.zero_le _, Nat.zero_le _⟩
  exact gm_back hS hrun (fun H1 locs1 hP1 hD1 hS1 => h q1 q hq2 p e s m args below meth c H1 locs1 ls hC hP1 hD1 hS1 hl)
theorem gm_callVv {g cl : Nat} {F : Option (Unit × Wd)} {K : Unit × Wd → Option (α × Wd)} {y : MethodName} {cc' : ByteArray} {n' np idx : Nat} {ret' : Option FieldType} {rm : Room} {As stk : List Value} (hd : decode cc pc = .ok (.invokevirtual idx, 3)) (hM : ∀ q1, F = some q1 → Mt l E y cc' n' ret' rm (.ref (E.1 g cl) :: As) w (eV q1.1) q1.2) {ci N : Nat} {C : String} {T : u_T} {fs : (Nat → Int32) → List Value} (ho : OB E g cl ci fs) (hc : vwCl[ci]? = some (C, T, N)) (hy : CY y cc' n' ret' C np) (hlk : Cond.methodLink own idx y ∈ lw_tbl) (hstk : stk = As.reverse ++ .ref (E.1 g cl) :: st) (hnp : As.length = np) (hro : Rm R rm n') (hst : (st.map fun v => v.category).sum ≤ 8) (h : ∀ q1, Gm l E cc nL own rt R en (K q1) (q1.2) (pc + 3) (lv) (st)) : Gm l E cc nL own rt R en (F.bind K) (w) (pc) (lv) (stk) := by
  intro q hq p e s m args below meth c H locs ls hC hP hD hS hl
  have hp : ∀ U : State, U.heap = H → s.WarmedH U.vm → Wk E w U := fun U hU hW => ⟨by rw [hU]; exact hP, va_K.moved hW.alike hC.2.2.2.2.2.2.2.2, hD, hC.2.2.2.2.2.1.warm hW⟩
  have tb : ∀ {z : Cond}, z ∈ lw_tbl → goodWord z = true → z.before args s = true := fun h1 h2 => hC.2.2.2.2.1 _ (gw_in h1 h2)
  obtain ⟨q1, hq1, hq2⟩ := Option.bind_eq_some_iff.mp hq
  have hM := hM q1 hq1
  obtain ⟨k0, hk0⟩ := List.getElem?_of_mem ho.1
  have he := wl_at (E := E) (w := w) hk0
  rw [ho.2] at he
  have hrun := va_runV (locs := locs) (below := below) (meth := meth) (e := e) (l := l) (cells := 0) (slots := 0) (As := As) (rest := st) (g := F0 m pc ls stk) (Ts := .code y cc' n' ret' :: gwl) ⟨hC.1, hC.2.1, hC.2.2.1, hC.2.2.2.1, fun z hz => (List.mem_cons.mp hz).elim (fun e => by rw [e]; exact tb hy.2.2.1 rfl) (hC.2.2.2.2.1 z)⟩ hM ⟨callB_of np (Ts := .code y cc' n' ret' :: gwl) (fun z hz => (List.mem_cons.mp hz).elim (fun e => by rw [e]; exact tb hy.2.2.1 rfl) (hC.2.2.2.2.1 z)) (gw_good hy.2.2.1 rfl) rfl hro.1.1 hro.1.2 (tb hy.2.2.2.1 rfl) (tb hlk rfl) hy.2.2.2.2 hro.2, tb hy.1 rfl, tb hy.2.1 rfl⟩ ⟨Wk.blind, va_recv hC.2.2.2.2.2.2.2.2 hP hc he, fun U hU hW => ⟨rfl, hp U hU hW⟩⟩ rfl hnp hl.1 hstk (lv_room hst) hd ⟨Nat.zero_le _, Nat.zero_le _⟩
  exact gm_back hS hrun (fun H1 locs1 hP1 hD1 hS1 => h q1 q hq2 p e s m args below meth c H1 locs1 ls hC hP1 hD1 hS1 hl)
theorem gm_callVk {g cl : Nat} {v : Value} {y : MethodName} {cc' : ByteArray} {n' np idx : Nat} {ret' : Option FieldType} {rm : Room} {As stk : List Value} (hd : decode cc pc = .ok (.invokevirtual idx, 3)) (hM : Mt l E y cc' n' ret' rm (.ref (E.1 g cl) :: As) w (some v) w) {ci N : Nat} {C : String} {T : u_T} {fs : (Nat → Int32) → List Value} (ho : OB E g cl ci fs) (hc : vwCl[ci]? = some (C, T, N)) (hy : CY y cc' n' ret' C np) (hlk : Cond.methodLink own idx y ∈ lw_tbl) (hstk : stk = As.reverse ++ .ref (E.1 g cl) :: st) (hnp : As.length = np) (hro : Rm R rm n') (hst : (st.map fun v => v.category).sum ≤ 8) (h : Gm l E cc nL own rt R en (res) (w) (pc + 3) (lv) (v :: st)) : Gm l E cc nL own rt R en (res) (w) (pc) (lv) (stk) := by
  intro q hq p e s m args below meth c H locs ls hC hP hD hS hl
  have hp : ∀ U : State, U.heap = H → s.WarmedH U.vm → Wk E w U := fun U hU hW => ⟨by rw [hU]; exact hP, va_K.moved hW.alike hC.2.2.2.2.2.2.2.2, hD, hC.2.2.2.2.2.1.warm hW⟩
  have tb : ∀ {z : Cond}, z ∈ lw_tbl → goodWord z = true → z.before args s = true := fun h1 h2 => hC.2.2.2.2.1 _ (gw_in h1 h2)
  obtain ⟨k0, hk0⟩ := List.getElem?_of_mem ho.1
  have he := wl_at (E := E) (w := w) hk0
  rw [ho.2] at he
  have hrun := va_runV (locs := locs) (below := below) (meth := meth) (e := e) (l := l) (cells := 0) (slots := 0) (As := As) (rest := st) (g := F0 m pc ls stk) (Ts := .code y cc' n' ret' :: gwl) ⟨hC.1, hC.2.1, hC.2.2.1, hC.2.2.2.1, fun z hz => (List.mem_cons.mp hz).elim (fun e => by rw [e]; exact tb hy.2.2.1 rfl) (hC.2.2.2.2.1 z)⟩ hM ⟨callB_of np (Ts := .code y cc' n' ret' :: gwl) (fun z hz => (List.mem_cons.mp hz).elim (fun e => by rw [e]; exact tb hy.2.2.1 rfl) (hC.2.2.2.2.1 z)) (gw_good hy.2.2.1 rfl) rfl hro.1.1 hro.1.2 (tb hy.2.2.2.1 rfl) (tb hlk rfl) hy.2.2.2.2 hro.2, tb hy.1 rfl, tb hy.2.1 rfl⟩ ⟨Wk.blind, va_recv hC.2.2.2.2.2.2.2.2 hP hc he, fun U hU hW => ⟨rfl, hp U hU hW⟩⟩ rfl hnp hl.1 hstk (lv_room hst) hd ⟨Nat.zero_le _, Nat.zero_le _⟩
  exact gm_back hS hrun (fun H1 locs1 hP1 hD1 hS1 => h q hq p e s m args below meth c H1 locs1 ls hC hP1 hD1 hS1 hl)
theorem gm_callSi {g cl : Nat} {F : Option (Int32 × Wd)} {K : Int32 × Wd → Option (α × Wd)} {y : MethodName} {cc' : ByteArray} {n' np idx : Nat} {ret' : Option FieldType} {rm : Room} {As stk : List Value} (hd : decode cc pc = .ok (.invokestatic idx, 3)) (hM : ∀ q1, F = some q1 → Mt l E y cc' n' ret' rm (As) w (eI q1.1) q1.2) (hy : CS y cc' n' ret' np) (hlk : Cond.methodLink own idx y ∈ lw_tbl) (hstk : stk = As.reverse ++ st) (hnp : As.length = np) (hro : Rm R rm n') (hst : (st.map fun v => v.category).sum ≤ 8) (h : ∀ q1, Gm l E cc nL own rt R en (K q1) (q1.2) (pc + 3) (lv) (.int q1.1 :: st)) : Gm l E cc nL own rt R en (F.bind K) (w) (pc) (lv) (stk) := by
  intro q hq p e s m args below meth c H locs ls hC hP hD hS hl
  have hp : ∀ U : State, U.heap = H → s.WarmedH U.vm → Wk E w U := fun U hU hW => ⟨by rw [hU]; exact hP, va_K.moved hW.alike hC.2.2.2.2.2.2.2.2, hD, hC.2.2.2.2.2.1.warm hW⟩
  have tb : ∀ {z : Cond}, z ∈ lw_tbl → goodWord z = true → z.before args s = true := fun h1 h2 => hC.2.2.2.2.1 _ (gw_in h1 h2)
  obtain ⟨q1, hq1, hq2⟩ := Option.bind_eq_some_iff.mp hq
  have hM := hM q1 hq1
  have hrun := va_runS (locs := locs) (below := below) (meth := meth) (e := e) (l := l) (cells := 0) (slots := 0) (As := As) (rest := st) (g := F0 m pc ls stk) (Ts := .code y cc' n' ret' :: gwl) ⟨hC.1, hC.2.1, hC.2.2.1, hC.2.2.2.1, fun z hz => (List.mem_cons.mp hz).elim (fun e => by rw [e]; exact tb hy.2.1 rfl) (hC.2.2.2.2.1 z)⟩ hM ⟨callB_of np (Ts := .code y cc' n' ret' :: gwl) (fun z hz => (List.mem_cons.mp hz).elim (fun e => by rw [e]; exact tb hy.2.1 rfl) (hC.2.2.2.2.1 z)) (gw_good hy.2.1 rfl) rfl hro.1.1 hro.1.2 (tb hy.2.2.1 rfl) (tb hlk rfl) hy.2.2.2 hro.2, tb hy.1 rfl⟩ ⟨Wk.blind, fun U hU hW => ⟨rfl, hp U hU hW⟩⟩ rfl hnp hl.1 hstk (lv_room hst) hd ⟨Nat.zero_le _, Nat.zero_le _⟩
  exact gm_back hS hrun (fun H1 locs1 hP1 hD1 hS1 => h q1 q hq2 p e s m args below meth c H1 locs1 ls hC hP1 hD1 hS1 hl)
theorem gm_callSl {g cl : Nat} {F : Option (Int64 × Wd)} {K : Int64 × Wd → Option (α × Wd)} {y : MethodName} {cc' : ByteArray} {n' np idx : Nat} {ret' : Option FieldType} {rm : Room} {As stk : List Value} (hd : decode cc pc = .ok (.invokestatic idx, 3)) (hM : ∀ q1, F = some q1 → Mt l E y cc' n' ret' rm (As) w (eL q1.1) q1.2) (hy : CS y cc' n' ret' np) (hlk : Cond.methodLink own idx y ∈ lw_tbl) (hstk : stk = As.reverse ++ st) (hnp : As.length = np) (hro : Rm R rm n') (hst : (st.map fun v => v.category).sum ≤ 8) (h : ∀ q1, Gm l E cc nL own rt R en (K q1) (q1.2) (pc + 3) (lv) (.long q1.1 :: st)) : Gm l E cc nL own rt R en (F.bind K) (w) (pc) (lv) (stk) := by
  intro q hq p e s m args below meth c H locs ls hC hP hD hS hl
  have hp : ∀ U : State, U.heap = H → s.WarmedH U.vm → Wk E w U := fun U hU hW => ⟨by rw [hU]; exact hP, va_K.moved hW.alike hC.2.2.2.2.2.2.2.2, hD, hC.2.2.2.2.2.1.warm hW⟩
  have tb : ∀ {z : Cond}, z ∈ lw_tbl → goodWord z = true → z.before args s = true := fun h1 h2 => hC.2.2.2.2.1 _ (gw_in h1 h2)
  obtain ⟨q1, hq1, hq2⟩ := Option.bind_eq_some_iff.mp hq
  have hM := hM q1 hq1
  have hrun := va_runS (locs := locs) (below := below) (meth := meth) (e := e) (l := l) (cells := 0) (slots := 0) (As := As) (rest := st) (g := F0 m pc ls stk) (Ts := .code y cc' n' ret' :: gwl) ⟨hC.1, hC.2.1, hC.2.2.1, hC.2.2.2.1, fun z hz => (List.mem_cons.mp hz).elim (fun e => by rw [e]; exact tb hy.2.1 rfl) (hC.2.2.2.2.1 z)⟩ hM ⟨callB_of np (Ts := .code y cc' n' ret' :: gwl) (fun z hz => (List.mem_cons.mp hz).elim (fun e => by rw [e]; exact tb hy.2.1 rfl) (hC.2.2.2.2.1 z)) (gw_good hy.2.1 rfl) rfl hro.1.1 hro.1.2 (tb hy.2.2.1 rfl) (tb hlk rfl) hy.2.2.2 hro.2, tb hy.1 rfl⟩ ⟨Wk.blind, fun U hU hW => ⟨rfl, hp U hU hW⟩⟩ rfl hnp hl.1 hstk (lv_room hst) hd ⟨Nat.zero_le _, Nat.zero_le _⟩
  exact gm_back hS hrun (fun H1 locs1 hP1 hD1 hS1 => h q1 q hq2 p e s m args below meth c H1 locs1 ls hC hP1 hD1 hS1 hl)
theorem gm_callSv {g cl : Nat} {F : Option (Unit × Wd)} {K : Unit × Wd → Option (α × Wd)} {y : MethodName} {cc' : ByteArray} {n' np idx : Nat} {ret' : Option FieldType} {rm : Room} {As stk : List Value} (hd : decode cc pc = .ok (.invokestatic idx, 3)) (hM : ∀ q1, F = some q1 → Mt l E y cc' n' ret' rm (As) w (eV q1.1) q1.2) (hy : CS y cc' n' ret' np) (hlk : Cond.methodLink own idx y ∈ lw_tbl) (hstk : stk = As.reverse ++ st) (hnp : As.length = np) (hro : Rm R rm n') (hst : (st.map fun v => v.category).sum ≤ 8) (h : ∀ q1, Gm l E cc nL own rt R en (K q1) (q1.2) (pc + 3) (lv) (st)) : Gm l E cc nL own rt R en (F.bind K) (w) (pc) (lv) (stk) := by
  intro q hq p e s m args below meth c H locs ls hC hP hD hS hl
  have hp : ∀ U : State, U.heap = H → s.WarmedH U.vm → Wk E w U := fun U hU hW => ⟨by rw [hU]; exact hP, va_K.moved hW.alike hC.2.2.2.2.2.2.2.2, hD, hC.2.2.2.2.2.1.warm hW⟩
  have tb : ∀ {z : Cond}, z ∈ lw_tbl → goodWord z = true → z.before args s = true := fun h1 h2 => hC.2.2.2.2.1 _ (gw_in h1 h2)
  obtain ⟨q1, hq1, hq2⟩ := Option.bind_eq_some_iff.mp hq
  have hM := hM q1 hq1
  have hrun := va_runS (locs := locs) (below := below) (meth := meth) (e := e) (l := l) (cells := 0) (slots := 0) (As := As) (rest := st) (g := F0 m pc ls stk) (Ts := .code y cc' n' ret' :: gwl) ⟨hC.1, hC.2.1, hC.2.2.1, hC.2.2.2.1, fun z hz => (List.mem_cons.mp hz).elim (fun e => by rw [e]; exact tb hy.2.1 rfl) (hC.2.2.2.2.1 z)⟩ hM ⟨callB_of np (Ts := .code y cc' n' ret' :: gwl) (fun z hz => (List.mem_cons.mp hz).elim (fun e => by rw [e]; exact tb hy.2.1 rfl) (hC.2.2.2.2.1 z)) (gw_good hy.2.1 rfl) rfl hro.1.1 hro.1.2 (tb hy.2.2.1 rfl) (tb hlk rfl) hy.2.2.2 hro.2, tb hy.1 rfl⟩ ⟨Wk.blind, fun U hU hW => ⟨rfl, hp U hU hW⟩⟩ rfl hnp hl.1 hstk (lv_room hst) hd ⟨Nat.zero_le _, Nat.zero_le _⟩
  exact gm_back hS hrun (fun H1 locs1 hP1 hD1 hS1 => h q1 q hq2 p e s m args below meth c H1 locs1 ls hC hP1 hD1 hS1 hl)
theorem gm_callSk {g cl : Nat} {v : Value} {y : MethodName} {cc' : ByteArray} {n' np idx : Nat} {ret' : Option FieldType} {rm : Room} {As stk : List Value} (hd : decode cc pc = .ok (.invokestatic idx, 3)) (hM : Mt l E y cc' n' ret' rm (As) w (some v) w) (hy : CS y cc' n' ret' np) (hlk : Cond.methodLink own idx y ∈ lw_tbl) (hstk : stk = As.reverse ++ st) (hnp : As.length = np) (hro : Rm R rm n') (hst : (st.map fun v => v.category).sum ≤ 8) (h : Gm l E cc nL own rt R en (res) (w) (pc + 3) (lv) (v :: st)) : Gm l E cc nL own rt R en (res) (w) (pc) (lv) (stk) := by
  intro q hq p e s m args below meth c H locs ls hC hP hD hS hl
  have hp : ∀ U : State, U.heap = H → s.WarmedH U.vm → Wk E w U := fun U hU hW => ⟨by rw [hU]; exact hP, va_K.moved hW.alike hC.2.2.2.2.2.2.2.2, hD, hC.2.2.2.2.2.1.warm hW⟩
  have tb : ∀ {z : Cond}, z ∈ lw_tbl → goodWord z = true → z.before args s = true := fun h1 h2 => hC.2.2.2.2.1 _ (gw_in h1 h2)
  have hrun := va_runS (locs := locs) (below := below) (meth := meth) (e := e) (l := l) (cells := 0) (slots := 0) (As := As) (rest := st) (g := F0 m pc ls stk) (Ts := .code y cc' n' ret' :: gwl) ⟨hC.1, hC.2.1, hC.2.2.1, hC.2.2.2.1, fun z hz => (List.mem_cons.mp hz).elim (fun e => by rw [e]; exact tb hy.2.1 rfl) (hC.2.2.2.2.1 z)⟩ hM ⟨callB_of np (Ts := .code y cc' n' ret' :: gwl) (fun z hz => (List.mem_cons.mp hz).elim (fun e => by rw [e]; exact tb hy.2.1 rfl) (hC.2.2.2.2.1 z)) (gw_good hy.2.1 rfl) rfl hro.1.1 hro.1.2 (tb hy.2.2.1 rfl) (tb hlk rfl) hy.2.2.2 hro.2, tb hy.1 rfl⟩ ⟨Wk.blind, fun U hU hW => ⟨rfl, hp U hU hW⟩⟩ rfl hnp hl.1 hstk (lv_room hst) hd ⟨Nat.zero_le _, Nat.zero_le _⟩
  exact gm_back hS hrun (fun H1 locs1 hP1 hD1 hS1 => h q hq p e s m args below meth c H1 locs1 ls hC hP1 hD1 hS1 hl)
theorem gm_callNi {g cl : Nat} {F : Option (Int32 × Wd)} {K : Int32 × Wd → Option (α × Wd)} {y : MethodName} {cc' : ByteArray} {n' np idx : Nat} {ret' : Option FieldType} {rm : Room} {As stk : List Value} (hd : decode cc pc = .ok (.invokestatic idx, 3)) (hM : ∀ q1, F = some q1 → Mt l E y cc' n' ret' rm (As) w (eI q1.1) q1.2) {host : String} (hy : CS y cc' n' ret' np) (hlk : Cond.methodLinkNest own idx y host ∈ lw_tbl) (hstk : stk = As.reverse ++ st) (hnp : As.length = np) (hro : Rm R rm n') (hst : (st.map fun v => v.category).sum ≤ 8) (h : ∀ q1, Gm l E cc nL own rt R en (K q1) (q1.2) (pc + 3) (lv) (.int q1.1 :: st)) : Gm l E cc nL own rt R en (F.bind K) (w) (pc) (lv) (stk) := by
  intro q hq p e s m args below meth c H locs ls hC hP hD hS hl
  have hp : ∀ U : State, U.heap = H → s.WarmedH U.vm → Wk E w U := fun U hU hW => ⟨by rw [hU]; exact hP, va_K.moved hW.alike hC.2.2.2.2.2.2.2.2, hD, hC.2.2.2.2.2.1.warm hW⟩
  have tb : ∀ {z : Cond}, z ∈ lw_tbl → goodWord z = true → z.before args s = true := fun h1 h2 => hC.2.2.2.2.1 _ (gw_in h1 h2)
  obtain ⟨q1, hq1, hq2⟩ := Option.bind_eq_some_iff.mp hq
  have hM := hM q1 hq1
  have hrun := va_runSN (locs := locs) (below := below) (meth := meth) (e := e) (l := l) (cells := 0) (slots := 0) (As := As) (rest := st) (g := F0 m pc ls stk) (Ts := .code y cc' n' ret' :: gwl) ⟨hC.1, hC.2.1, hC.2.2.1, hC.2.2.2.1, fun z hz => (List.mem_cons.mp hz).elim (fun e => by rw [e]; exact tb hy.2.1 rfl) (hC.2.2.2.2.1 z)⟩ hM ⟨va_cnB np (Ts := .code y cc' n' ret' :: gwl) (fun z hz => (List.mem_cons.mp hz).elim (fun e => by rw [e]; exact tb hy.2.1 rfl) (hC.2.2.2.2.1 z)) (gw_good hy.2.1 rfl) rfl hro.1.1 hro.1.2 (hC.2.2.2.2.2.1 _ hlk rfl) (tb hy.2.2.1 rfl) hy.2.2.2 hro.2, tb hy.1 rfl, trivial⟩ ⟨Wk.blind, fun U hU hW => ⟨rfl, hp U hU hW⟩⟩ rfl hnp hl.1 hstk (lv_room hst) hd ⟨Nat.zero_le _, Nat.zero_le _⟩
  exact gm_back hS hrun (fun H1 locs1 hP1 hD1 hS1 => h q1 q hq2 p e s m args below meth c H1 locs1 ls hC hP1 hD1 hS1 hl)
theorem gm_callNl {g cl : Nat} {F : Option (Int64 × Wd)} {K : Int64 × Wd → Option (α × Wd)} {y : MethodName} {cc' : ByteArray} {n' np idx : Nat} {ret' : Option FieldType} {rm : Room} {As stk : List Value} (hd : decode cc pc = .ok (.invokestatic idx, 3)) (hM : ∀ q1, F = some q1 → Mt l E y cc' n' ret' rm (As) w (eL q1.1) q1.2) {host : String} (hy : CS y cc' n' ret' np) (hlk : Cond.methodLinkNest own idx y host ∈ lw_tbl) (hstk : stk = As.reverse ++ st) (hnp : As.length = np) (hro : Rm R rm n') (hst : (st.map fun v => v.category).sum ≤ 8) (h : ∀ q1, Gm l E cc nL own rt R en (K q1) (q1.2) (pc + 3) (lv) (.long q1.1 :: st)) : Gm l E cc nL own rt R en (F.bind K) (w) (pc) (lv) (stk) := by
  intro q hq p e s m args below meth c H locs ls hC hP hD hS hl
  have hp : ∀ U : State, U.heap = H → s.WarmedH U.vm → Wk E w U := fun U hU hW => ⟨by rw [hU]; exact hP, va_K.moved hW.alike hC.2.2.2.2.2.2.2.2, hD, hC.2.2.2.2.2.1.warm hW⟩
  have tb : ∀ {z : Cond}, z ∈ lw_tbl → goodWord z = true → z.before args s = true := fun h1 h2 => hC.2.2.2.2.1 _ (gw_in h1 h2)
  obtain ⟨q1, hq1, hq2⟩ := Option.bind_eq_some_iff.mp hq
  have hM := hM q1 hq1
  have hrun := va_runSN (locs := locs) (below := below) (meth := meth) (e := e) (l := l) (cells := 0) (slots := 0) (As := As) (rest := st) (g := F0 m pc ls stk) (Ts := .code y cc' n' ret' :: gwl) ⟨hC.1, hC.2.1, hC.2.2.1, hC.2.2.2.1, fun z hz => (List.mem_cons.mp hz).elim (fun e => by rw [e]; exact tb hy.2.1 rfl) (hC.2.2.2.2.1 z)⟩ hM ⟨va_cnB np (Ts := .code y cc' n' ret' :: gwl) (fun z hz => (List.mem_cons.mp hz).elim (fun e => by rw [e]; exact tb hy.2.1 rfl) (hC.2.2.2.2.1 z)) (gw_good hy.2.1 rfl) rfl hro.1.1 hro.1.2 (hC.2.2.2.2.2.1 _ hlk rfl) (tb hy.2.2.1 rfl) hy.2.2.2 hro.2, tb hy.1 rfl, trivial⟩ ⟨Wk.blind, fun U hU hW => ⟨rfl, hp U hU hW⟩⟩ rfl hnp hl.1 hstk (lv_room hst) hd ⟨Nat.zero_le _, Nat.zero_le _⟩
  exact gm_back hS hrun (fun H1 locs1 hP1 hD1 hS1 => h q1 q hq2 p e s m args below meth c H1 locs1 ls hC hP1 hD1 hS1 hl)
theorem gm_callNv {g cl : Nat} {F : Option (Unit × Wd)} {K : Unit × Wd → Option (α × Wd)} {y : MethodName} {cc' : ByteArray} {n' np idx : Nat} {ret' : Option FieldType} {rm : Room} {As stk : List Value} (hd : decode cc pc = .ok (.invokestatic idx, 3)) (hM : ∀ q1, F = some q1 → Mt l E y cc' n' ret' rm (As) w (eV q1.1) q1.2) {host : String} (hy : CS y cc' n' ret' np) (hlk : Cond.methodLinkNest own idx y host ∈ lw_tbl) (hstk : stk = As.reverse ++ st) (hnp : As.length = np) (hro : Rm R rm n') (hst : (st.map fun v => v.category).sum ≤ 8) (h : ∀ q1, Gm l E cc nL own rt R en (K q1) (q1.2) (pc + 3) (lv) (st)) : Gm l E cc nL own rt R en (F.bind K) (w) (pc) (lv) (stk) := by
  intro q hq p e s m args below meth c H locs ls hC hP hD hS hl
  have hp : ∀ U : State, U.heap = H → s.WarmedH U.vm → Wk E w U := fun U hU hW => ⟨by rw [hU]; exact hP, va_K.moved hW.alike hC.2.2.2.2.2.2.2.2, hD, hC.2.2.2.2.2.1.warm hW⟩
  have tb : ∀ {z : Cond}, z ∈ lw_tbl → goodWord z = true → z.before args s = true := fun h1 h2 => hC.2.2.2.2.1 _ (gw_in h1 h2)
  obtain ⟨q1, hq1, hq2⟩ := Option.bind_eq_some_iff.mp hq
  have hM := hM q1 hq1
  have hrun := va_runSN (locs := locs) (below := below) (meth := meth) (e := e) (l := l) (cells := 0) (slots := 0) (As := As) (rest := st) (g := F0 m pc ls stk) (Ts := .code y cc' n' ret' :: gwl) ⟨hC.1, hC.2.1, hC.2.2.1, hC.2.2.2.1, fun z hz => (List.mem_cons.mp hz).elim (fun e => by rw [e]; exact tb hy.2.1 rfl) (hC.2.2.2.2.1 z)⟩ hM ⟨va_cnB np (Ts := .code y cc' n' ret' :: gwl) (fun z hz => (List.mem_cons.mp hz).elim (fun e => by rw [e]; exact tb hy.2.1 rfl) (hC.2.2.2.2.1 z)) (gw_good hy.2.1 rfl) rfl hro.1.1 hro.1.2 (hC.2.2.2.2.2.1 _ hlk rfl) (tb hy.2.2.1 rfl) hy.2.2.2 hro.2, tb hy.1 rfl, trivial⟩ ⟨Wk.blind, fun U hU hW => ⟨rfl, hp U hU hW⟩⟩ rfl hnp hl.1 hstk (lv_room hst) hd ⟨Nat.zero_le _, Nat.zero_le _⟩
  exact gm_back hS hrun (fun H1 locs1 hP1 hD1 hS1 => h q1 q hq2 p e s m args below meth c H1 locs1 ls hC hP1 hD1 hS1 hl)
theorem gm_callNk {g cl : Nat} {v : Value} {y : MethodName} {cc' : ByteArray} {n' np idx : Nat} {ret' : Option FieldType} {rm : Room} {As stk : List Value} (hd : decode cc pc = .ok (.invokestatic idx, 3)) (hM : Mt l E y cc' n' ret' rm (As) w (some v) w) {host : String} (hy : CS y cc' n' ret' np) (hlk : Cond.methodLinkNest own idx y host ∈ lw_tbl) (hstk : stk = As.reverse ++ st) (hnp : As.length = np) (hro : Rm R rm n') (hst : (st.map fun v => v.category).sum ≤ 8) (h : Gm l E cc nL own rt R en (res) (w) (pc + 3) (lv) (v :: st)) : Gm l E cc nL own rt R en (res) (w) (pc) (lv) (stk) := by
  intro q hq p e s m args below meth c H locs ls hC hP hD hS hl
  have hp : ∀ U : State, U.heap = H → s.WarmedH U.vm → Wk E w U := fun U hU hW => ⟨by rw [hU]; exact hP, va_K.moved hW.alike hC.2.2.2.2.2.2.2.2, hD, hC.2.2.2.2.2.1.warm hW⟩
  have tb : ∀ {z : Cond}, z ∈ lw_tbl → goodWord z = true → z.before args s = true := fun h1 h2 => hC.2.2.2.2.1 _ (gw_in h1 h2)
  have hrun := va_runSN (locs := locs) (below := below) (meth := meth) (e := e) (l := l) (cells := 0) (slots := 0) (As := As) (rest := st) (g := F0 m pc ls stk) (Ts := .code y cc' n' ret' :: gwl) ⟨hC.1, hC.2.1, hC.2.2.1, hC.2.2.2.1, fun z hz => (List.mem_cons.mp hz).elim (fun e => by rw [e]; exact tb hy.2.1 rfl) (hC.2.2.2.2.1 z)⟩ hM ⟨va_cnB np (Ts := .code y cc' n' ret' :: gwl) (fun z hz => (List.mem_cons.mp hz).elim (fun e => by rw [e]; exact tb hy.2.1 rfl) (hC.2.2.2.2.1 z)) (gw_good hy.2.1 rfl) rfl hro.1.1 hro.1.2 (hC.2.2.2.2.2.1 _ hlk rfl) (tb hy.2.2.1 rfl) hy.2.2.2 hro.2, tb hy.1 rfl, trivial⟩ ⟨Wk.blind, fun U hU hW => ⟨rfl, hp U hU hW⟩⟩ rfl hnp hl.1 hstk (lv_room hst) hd ⟨Nat.zero_le _, Nat.zero_le _⟩
  exact gm_back hS hrun (fun H1 locs1 hP1 hD1 hS1 => h q hq p e s m args below meth c H1 locs1 ls hC hP1 hD1 hS1 hl)
theorem gm_callVr {g cl k : Nat} {F : Option (Nat × Wd)} {K : Nat × Wd → Option (α × Wd)} {y : MethodName} {cc' : ByteArray} {n' np idx : Nat} {ret' : Option FieldType} {rm : Room} {As stk : List Value} (hd : decode cc pc = .ok (.invokevirtual idx, 3)) (hM : ∀ q1, F = some q1 → Mt l E y cc' n' ret' rm (.ref (E.1 g cl) :: As) w (eR E k q1.1) q1.2) {ci N : Nat} {C : String} {T : u_T} {fs : (Nat → Int32) → List Value} (ho : OB E g cl ci fs) (hc : vwCl[ci]? = some (C, T, N)) (hy : CY y cc' n' ret' C np) (hlk : Cond.methodLink own idx y ∈ lw_tbl) (hstk : stk = As.reverse ++ .ref (E.1 g cl) :: st) (hnp : As.length = np) (hro : Rm R rm n') (hst : (st.map fun v => v.category).sum ≤ 8) (h : ∀ q1, Gm l E cc nL own rt R en (K q1) (q1.2) (pc + 3) (lv) (.ref (E.1 q1.1 k) :: st)) : Gm l E cc nL own rt R en (F.bind K) (w) (pc) (lv) (stk) := by
  intro q hq p e s m args below meth c H locs ls hC hP hD hS hl
  have hp : ∀ U : State, U.heap = H → s.WarmedH U.vm → Wk E w U := fun U hU hW => ⟨by rw [hU]; exact hP, va_K.moved hW.alike hC.2.2.2.2.2.2.2.2, hD, hC.2.2.2.2.2.1.warm hW⟩
  have tb : ∀ {z : Cond}, z ∈ lw_tbl → goodWord z = true → z.before args s = true := fun h1 h2 => hC.2.2.2.2.1 _ (gw_in h1 h2)
  obtain ⟨q1, hq1, hq2⟩ := Option.bind_eq_some_iff.mp hq
  have hM := hM q1 hq1
  obtain ⟨k0, hk0⟩ := List.getElem?_of_mem ho.1
  have he := wl_at (E := E) (w := w) hk0
  rw [ho.2] at he
  have hrun := va_runV (locs := locs) (below := below) (meth := meth) (e := e) (l := l) (cells := 0) (slots := 0) (As := As) (rest := st) (g := F0 m pc ls stk) (Ts := .code y cc' n' ret' :: gwl) ⟨hC.1, hC.2.1, hC.2.2.1, hC.2.2.2.1, fun z hz => (List.mem_cons.mp hz).elim (fun e => by rw [e]; exact tb hy.2.2.1 rfl) (hC.2.2.2.2.1 z)⟩ hM ⟨callB_of np (Ts := .code y cc' n' ret' :: gwl) (fun z hz => (List.mem_cons.mp hz).elim (fun e => by rw [e]; exact tb hy.2.2.1 rfl) (hC.2.2.2.2.1 z)) (gw_good hy.2.2.1 rfl) rfl hro.1.1 hro.1.2 (tb hy.2.2.2.1 rfl) (tb hlk rfl) hy.2.2.2.2 hro.2, tb hy.1 rfl, tb hy.2.1 rfl⟩ ⟨Wk.blind, va_recv hC.2.2.2.2.2.2.2.2 hP hc he, fun U hU hW => ⟨rfl, hp U hU hW⟩⟩ rfl hnp hl.1 hstk (lv_room hst) hd ⟨Nat.zero_le _, Nat.zero_le _⟩
  exact gm_back hS hrun (fun H1 locs1 hP1 hD1 hS1 => h q1 q hq2 p e s m args below meth c H1 locs1 ls hC hP1 hD1 hS1 hl)
end GM
end
