-- ===== PART A: goes FIRST, ahead of the names: the tables' words, and 'selects' of the private methods out of them =====
/-- a private method of a class that the tables say can be made, by its rows of tables_1 -/
def lw_okq (q : MethodName × Nat) : Prop := (q.1.cls ≠ "java/lang/invoke/MethodHandle" ∧ q.1.cls ≠ "java/lang/invoke/VarHandle") ∧ Cond.instantiable q.1.cls q.2 ∈ tables_1 ∧ Cond.privateMethod q.1 ∈ tables_1 ∧ Cond.instanceMethod q.1 ∈ tables_1
theorem lw_p0 : lw_okq (⟨"MicroSteps", "askRamp", "(III)Z"⟩, 13) := ⟨⟨by decide +kernel, by decide +kernel⟩, List.mem_of_getElem? (i := 22) (by decide +kernel), List.mem_of_getElem? (i := 731) (by decide +kernel), List.mem_of_getElem? (i := 732) (by decide +kernel)⟩
theorem lw_p1 : lw_okq (⟨"MicroSteps", "askMove", "(III)Z"⟩, 13) := ⟨⟨by decide +kernel, by decide +kernel⟩, List.mem_of_getElem? (i := 22) (by decide +kernel), List.mem_of_getElem? (i := 763) (by decide +kernel), List.mem_of_getElem? (i := 764) (by decide +kernel)⟩
theorem lw_p2 : lw_okq (⟨"MicroSteps", "takeGoal", "(III)Z"⟩, 13) := ⟨⟨by decide +kernel, by decide +kernel⟩, List.mem_of_getElem? (i := 22) (by decide +kernel), List.mem_of_getElem? (i := 767) (by decide +kernel), List.mem_of_getElem? (i := 768) (by decide +kernel)⟩
theorem lw_p3 : lw_okq (⟨"MicroSteps", "isAxis", "(I)Z"⟩, 13) := ⟨⟨by decide +kernel, by decide +kernel⟩, List.mem_of_getElem? (i := 22) (by decide +kernel), List.mem_of_getElem? (i := 813) (by decide +kernel), List.mem_of_getElem? (i := 814) (by decide +kernel)⟩
theorem lw_p4 : lw_okq (⟨"MicroSteps", "shakeBy", "(III)I"⟩, 13) := ⟨⟨by decide +kernel, by decide +kernel⟩, List.mem_of_getElem? (i := 22) (by decide +kernel), List.mem_of_getElem? (i := 1073) (by decide +kernel), List.mem_of_getElem? (i := 1074) (by decide +kernel)⟩
theorem lw_p5 : lw_okq (⟨"MicroSteps", "offWhileFollowing", "(III)I"⟩, 13) := ⟨⟨by decide +kernel, by decide +kernel⟩, List.mem_of_getElem? (i := 22) (by decide +kernel), List.mem_of_getElem? (i := 1093) (by decide +kernel), List.mem_of_getElem? (i := 1094) (by decide +kernel)⟩
theorem lw_p6 : lw_okq (⟨"MicroStepsModel", "four", "(I)V"⟩, 51) := ⟨⟨by decide +kernel, by decide +kernel⟩, List.mem_of_getElem? (i := 1110) (by decide +kernel), List.mem_of_getElem? (i := 1279) (by decide +kernel), List.mem_of_getElem? (i := 1280) (by decide +kernel)⟩
theorem lw_p7 : lw_okq (⟨"MicroStepsModel", "goOn", "()V"⟩, 51) := ⟨⟨by decide +kernel, by decide +kernel⟩, List.mem_of_getElem? (i := 1110) (by decide +kernel), List.mem_of_getElem? (i := 1294) (by decide +kernel), List.mem_of_getElem? (i := 1295) (by decide +kernel)⟩
theorem lw_p8 : lw_okq (⟨"MicroStepsModel", "here", "(I)I"⟩, 51) := ⟨⟨by decide +kernel, by decide +kernel⟩, List.mem_of_getElem? (i := 1110) (by decide +kernel), List.mem_of_getElem? (i := 1298) (by decide +kernel), List.mem_of_getElem? (i := 1299) (by decide +kernel)⟩
theorem lw_p9 : lw_okq (⟨"MicroStepsModel", "isGood", "()Z"⟩, 51) := ⟨⟨by decide +kernel, by decide +kernel⟩, List.mem_of_getElem? (i := 1110) (by decide +kernel), List.mem_of_getElem? (i := 1308) (by decide +kernel), List.mem_of_getElem? (i := 1309) (by decide +kernel)⟩
theorem lw_p10 : lw_okq (⟨"MicroStepsModel", "line", "()V"⟩, 51) := ⟨⟨by decide +kernel, by decide +kernel⟩, List.mem_of_getElem? (i := 1110) (by decide +kernel), List.mem_of_getElem? (i := 1312) (by decide +kernel), List.mem_of_getElem? (i := 1313) (by decide +kernel)⟩
theorem lw_p11 : lw_okq (⟨"MicroStepsModel", "isWord", "(J)Z"⟩, 51) := ⟨⟨by decide +kernel, by decide +kernel⟩, List.mem_of_getElem? (i := 1110) (by decide +kernel), List.mem_of_getElem? (i := 1317) (by decide +kernel), List.mem_of_getElem? (i := 1318) (by decide +kernel)⟩
theorem lw_p12 : lw_okq (⟨"MicroStepsModel", "axisLine", "()V"⟩, 51) := ⟨⟨by decide +kernel, by decide +kernel⟩, List.mem_of_getElem? (i := 1110) (by decide +kernel), List.mem_of_getElem? (i := 1321) (by decide +kernel), List.mem_of_getElem? (i := 1322) (by decide +kernel)⟩
theorem lw_p13 : lw_okq (⟨"MicroStepsModel", "wrong", "(I)V"⟩, 51) := ⟨⟨by decide +kernel, by decide +kernel⟩, List.mem_of_getElem? (i := 1110) (by decide +kernel), List.mem_of_getElem? (i := 1325) (by decide +kernel), List.mem_of_getElem? (i := 1326) (by decide +kernel)⟩
theorem lw_p14 : lw_okq (⟨"MicroStepsModel", "mustName", "()V"⟩, 51) := ⟨⟨by decide +kernel, by decide +kernel⟩, List.mem_of_getElem? (i := 1110) (by decide +kernel), List.mem_of_getElem? (i := 1329) (by decide +kernel), List.mem_of_getElem? (i := 1330) (by decide +kernel)⟩
theorem lw_p15 : lw_okq (⟨"MicroStepsModel", "isKept", "()Z"⟩, 51) := ⟨⟨by decide +kernel, by decide +kernel⟩, List.mem_of_getElem? (i := 1110) (by decide +kernel), List.mem_of_getElem? (i := 1333) (by decide +kernel), List.mem_of_getElem? (i := 1334) (by decide +kernel)⟩
def lw_privs_1 : List (MethodName × Nat) := [(⟨"MicroSteps", "askRamp", "(III)Z"⟩, 13), (⟨"MicroSteps", "askMove", "(III)Z"⟩, 13), (⟨"MicroSteps", "takeGoal", "(III)Z"⟩, 13), (⟨"MicroSteps", "isAxis", "(I)Z"⟩, 13), (⟨"MicroSteps", "shakeBy", "(III)I"⟩, 13), (⟨"MicroSteps", "offWhileFollowing", "(III)I"⟩, 13), (⟨"MicroStepsModel", "four", "(I)V"⟩, 51), (⟨"MicroStepsModel", "goOn", "()V"⟩, 51), (⟨"MicroStepsModel", "here", "(I)I"⟩, 51), (⟨"MicroStepsModel", "isGood", "()Z"⟩, 51), (⟨"MicroStepsModel", "line", "()V"⟩, 51), (⟨"MicroStepsModel", "isWord", "(J)Z"⟩, 51), (⟨"MicroStepsModel", "axisLine", "()V"⟩, 51), (⟨"MicroStepsModel", "wrong", "(I)V"⟩, 51), (⟨"MicroStepsModel", "mustName", "()V"⟩, 51), (⟨"MicroStepsModel", "isKept", "()Z"⟩, 51)]
theorem lw_r1 : ∀ q ∈ lw_privs_1, lw_okq q := List.forall_mem_cons.mpr ⟨lw_p0, List.forall_mem_cons.mpr ⟨lw_p1, List.forall_mem_cons.mpr ⟨lw_p2, List.forall_mem_cons.mpr ⟨lw_p3, List.forall_mem_cons.mpr ⟨lw_p4, List.forall_mem_cons.mpr ⟨lw_p5, List.forall_mem_cons.mpr ⟨lw_p6, List.forall_mem_cons.mpr ⟨lw_p7, List.forall_mem_cons.mpr ⟨lw_p8, List.forall_mem_cons.mpr ⟨lw_p9, List.forall_mem_cons.mpr ⟨lw_p10, List.forall_mem_cons.mpr ⟨lw_p11, List.forall_mem_cons.mpr ⟨lw_p12, List.forall_mem_cons.mpr ⟨lw_p13, List.forall_mem_cons.mpr ⟨lw_p14, List.forall_mem_cons.mpr ⟨lw_p15, fun _ h => absurd h List.not_mem_nil⟩⟩⟩⟩⟩⟩⟩⟩⟩⟩⟩⟩⟩⟩⟩⟩
theorem lw_p16 : lw_okq (⟨"MicroStepsModel", "nameAt", "()I"⟩, 51) := ⟨⟨by decide +kernel, by decide +kernel⟩, List.mem_of_getElem? (i := 1110) (by decide +kernel), List.mem_of_getElem? (i := 1349) (by decide +kernel), List.mem_of_getElem? (i := 1350) (by decide +kernel)⟩
theorem lw_p17 : lw_okq (⟨"MicroStepsModel", "behind", "(JII)I"⟩, 51) := ⟨⟨by decide +kernel, by decide +kernel⟩, List.mem_of_getElem? (i := 1110) (by decide +kernel), List.mem_of_getElem? (i := 1353) (by decide +kernel), List.mem_of_getElem? (i := 1354) (by decide +kernel)⟩
theorem lw_p18 : lw_okq (⟨"MicroStepsModel", "must", "(J)V"⟩, 51) := ⟨⟨by decide +kernel, by decide +kernel⟩, List.mem_of_getElem? (i := 1110) (by decide +kernel), List.mem_of_getElem? (i := 1357) (by decide +kernel), List.mem_of_getElem? (i := 1358) (by decide +kernel)⟩
theorem lw_p19 : lw_okq (⟨"MicroStepsModel", "number", "(II)I"⟩, 51) := ⟨⟨by decide +kernel, by decide +kernel⟩, List.mem_of_getElem? (i := 1110) (by decide +kernel), List.mem_of_getElem? (i := 1361) (by decide +kernel), List.mem_of_getElem? (i := 1362) (by decide +kernel)⟩
theorem lw_p20 : lw_okq (⟨"MicroStepsModel", "numberHere", "(III)I"⟩, 51) := ⟨⟨by decide +kernel, by decide +kernel⟩, List.mem_of_getElem? (i := 1110) (by decide +kernel), List.mem_of_getElem? (i := 1365) (by decide +kernel), List.mem_of_getElem? (i := 1366) (by decide +kernel)⟩
theorem lw_p21 : lw_okq (⟨"MicroStepsModel", "motorLine", "()V"⟩, 51) := ⟨⟨by decide +kernel, by decide +kernel⟩, List.mem_of_getElem? (i := 1110) (by decide +kernel), List.mem_of_getElem? (i := 1369) (by decide +kernel), List.mem_of_getElem? (i := 1370) (by decide +kernel)⟩
theorem lw_p22 : lw_okq (⟨"MicroStepsModel", "axisHere", "()I"⟩, 51) := ⟨⟨by decide +kernel, by decide +kernel⟩, List.mem_of_getElem? (i := 1110) (by decide +kernel), List.mem_of_getElem? (i := 1373) (by decide +kernel), List.mem_of_getElem? (i := 1374) (by decide +kernel)⟩
theorem lw_p23 : lw_okq (⟨"MicroStepsModel", "bandLine", "()V"⟩, 51) := ⟨⟨by decide +kernel, by decide +kernel⟩, List.mem_of_getElem? (i := 1110) (by decide +kernel), List.mem_of_getElem? (i := 1377) (by decide +kernel), List.mem_of_getElem? (i := 1378) (by decide +kernel)⟩
theorem lw_p24 : lw_okq (⟨"MicroStepsModel", "fixLine", "()V"⟩, 51) := ⟨⟨by decide +kernel, by decide +kernel⟩, List.mem_of_getElem? (i := 1110) (by decide +kernel), List.mem_of_getElem? (i := 1381) (by decide +kernel), List.mem_of_getElem? (i := 1382) (by decide +kernel)⟩
theorem lw_p25 : lw_okq (⟨"MicroStepsModel", "coilLine", "()V"⟩, 51) := ⟨⟨by decide +kernel, by decide +kernel⟩, List.mem_of_getElem? (i := 1110) (by decide +kernel), List.mem_of_getElem? (i := 1385) (by decide +kernel), List.mem_of_getElem? (i := 1386) (by decide +kernel)⟩
theorem lw_p26 : lw_okq (⟨"MicroStepsModel", "takes", "()V"⟩, 51) := ⟨⟨by decide +kernel, by decide +kernel⟩, List.mem_of_getElem? (i := 1110) (by decide +kernel), List.mem_of_getElem? (i := 1389) (by decide +kernel), List.mem_of_getElem? (i := 1390) (by decide +kernel)⟩
theorem lw_p27 : lw_okq (⟨"MicroStepsModel", "currentOf", "(II)I"⟩, 51) := ⟨⟨by decide +kernel, by decide +kernel⟩, List.mem_of_getElem? (i := 1110) (by decide +kernel), List.mem_of_getElem? (i := 1407) (by decide +kernel), List.mem_of_getElem? (i := 1408) (by decide +kernel)⟩
theorem lw_p28 : lw_okq (⟨"MicroStepsModel", "sine", "(IZ)I"⟩, 51) := ⟨⟨by decide +kernel, by decide +kernel⟩, List.mem_of_getElem? (i := 1110) (by decide +kernel), List.mem_of_getElem? (i := 1414) (by decide +kernel), List.mem_of_getElem? (i := 1415) (by decide +kernel)⟩
theorem lw_p29 : lw_okq (⟨"MicroStepsModel", "tableAt", "(IZ)I"⟩, 51) := ⟨⟨by decide +kernel, by decide +kernel⟩, List.mem_of_getElem? (i := 1110) (by decide +kernel), List.mem_of_getElem? (i := 1418) (by decide +kernel), List.mem_of_getElem? (i := 1419) (by decide +kernel)⟩
theorem lw_p30 : lw_okq (⟨"MicroStepsModel", "rootAt", "(I)I"⟩, 51) := ⟨⟨by decide +kernel, by decide +kernel⟩, List.mem_of_getElem? (i := 1110) (by decide +kernel), List.mem_of_getElem? (i := 1427) (by decide +kernel), List.mem_of_getElem? (i := 1428) (by decide +kernel)⟩
theorem lw_p31 : lw_okq (⟨"MicroStepsModel", "laysRamp", "(III)V"⟩, 51) := ⟨⟨by decide +kernel, by decide +kernel⟩, List.mem_of_getElem? (i := 1110) (by decide +kernel), List.mem_of_getElem? (i := 1457) (by decide +kernel), List.mem_of_getElem? (i := 1458) (by decide +kernel)⟩
def lw_privs_2 : List (MethodName × Nat) := [(⟨"MicroStepsModel", "nameAt", "()I"⟩, 51), (⟨"MicroStepsModel", "behind", "(JII)I"⟩, 51), (⟨"MicroStepsModel", "must", "(J)V"⟩, 51), (⟨"MicroStepsModel", "number", "(II)I"⟩, 51), (⟨"MicroStepsModel", "numberHere", "(III)I"⟩, 51), (⟨"MicroStepsModel", "motorLine", "()V"⟩, 51), (⟨"MicroStepsModel", "axisHere", "()I"⟩, 51), (⟨"MicroStepsModel", "bandLine", "()V"⟩, 51), (⟨"MicroStepsModel", "fixLine", "()V"⟩, 51), (⟨"MicroStepsModel", "coilLine", "()V"⟩, 51), (⟨"MicroStepsModel", "takes", "()V"⟩, 51), (⟨"MicroStepsModel", "currentOf", "(II)I"⟩, 51), (⟨"MicroStepsModel", "sine", "(IZ)I"⟩, 51), (⟨"MicroStepsModel", "tableAt", "(IZ)I"⟩, 51), (⟨"MicroStepsModel", "rootAt", "(I)I"⟩, 51), (⟨"MicroStepsModel", "laysRamp", "(III)V"⟩, 51)]
theorem lw_r2 : ∀ q ∈ lw_privs_2, lw_okq q := List.forall_mem_cons.mpr ⟨lw_p16, List.forall_mem_cons.mpr ⟨lw_p17, List.forall_mem_cons.mpr ⟨lw_p18, List.forall_mem_cons.mpr ⟨lw_p19, List.forall_mem_cons.mpr ⟨lw_p20, List.forall_mem_cons.mpr ⟨lw_p21, List.forall_mem_cons.mpr ⟨lw_p22, List.forall_mem_cons.mpr ⟨lw_p23, List.forall_mem_cons.mpr ⟨lw_p24, List.forall_mem_cons.mpr ⟨lw_p25, List.forall_mem_cons.mpr ⟨lw_p26, List.forall_mem_cons.mpr ⟨lw_p27, List.forall_mem_cons.mpr ⟨lw_p28, List.forall_mem_cons.mpr ⟨lw_p29, List.forall_mem_cons.mpr ⟨lw_p30, List.forall_mem_cons.mpr ⟨lw_p31, fun _ h => absurd h List.not_mem_nil⟩⟩⟩⟩⟩⟩⟩⟩⟩⟩⟩⟩⟩⟩⟩⟩
theorem lw_p32 : lw_okq (⟨"MicroStepsModel", "reached", "()I"⟩, 51) := ⟨⟨by decide +kernel, by decide +kernel⟩, List.mem_of_getElem? (i := 1110) (by decide +kernel), List.mem_of_getElem? (i := 1464) (by decide +kernel), List.mem_of_getElem? (i := 1465) (by decide +kernel)⟩
theorem lw_p33 : lw_okq (⟨"MicroStepsModel", "rampSum", "()I"⟩, 51) := ⟨⟨by decide +kernel, by decide +kernel⟩, List.mem_of_getElem? (i := 1110) (by decide +kernel), List.mem_of_getElem? (i := 1468) (by decide +kernel), List.mem_of_getElem? (i := 1469) (by decide +kernel)⟩
theorem lw_p34 : lw_okq (⟨"MicroStepsModel", "isAxis", "(I)Z"⟩, 51) := ⟨⟨by decide +kernel, by decide +kernel⟩, List.mem_of_getElem? (i := 1110) (by decide +kernel), List.mem_of_getElem? (i := 1480) (by decide +kernel), List.mem_of_getElem? (i := 1481) (by decide +kernel)⟩
theorem lw_p35 : lw_okq (⟨"MicroStepsModel", "bandsAt", "(II)I"⟩, 51) := ⟨⟨by decide +kernel, by decide +kernel⟩, List.mem_of_getElem? (i := 1110) (by decide +kernel), List.mem_of_getElem? (i := 1484) (by decide +kernel), List.mem_of_getElem? (i := 1485) (by decide +kernel)⟩
theorem lw_p36 : lw_okq (⟨"MicroStepsModel", "canGo", "(III)Z"⟩, 51) := ⟨⟨by decide +kernel, by decide +kernel⟩, List.mem_of_getElem? (i := 1110) (by decide +kernel), List.mem_of_getElem? (i := 1492) (by decide +kernel), List.mem_of_getElem? (i := 1493) (by decide +kernel)⟩
theorem lw_p37 : lw_okq (⟨"MicroStepsModel", "areRight", "(III)Z"⟩, 51) := ⟨⟨by decide +kernel, by decide +kernel⟩, List.mem_of_getElem? (i := 1110) (by decide +kernel), List.mem_of_getElem? (i := 1496) (by decide +kernel), List.mem_of_getElem? (i := 1497) (by decide +kernel)⟩
theorem lw_p38 : lw_okq (⟨"MicroStepsModel", "plans", "(III)Z"⟩, 51) := ⟨⟨by decide +kernel, by decide +kernel⟩, List.mem_of_getElem? (i := 1110) (by decide +kernel), List.mem_of_getElem? (i := 1505) (by decide +kernel), List.mem_of_getElem? (i := 1506) (by decide +kernel)⟩
theorem lw_p39 : lw_okq (⟨"MicroStepsModel", "axisAt", "(II)I"⟩, 51) := ⟨⟨by decide +kernel, by decide +kernel⟩, List.mem_of_getElem? (i := 1110) (by decide +kernel), List.mem_of_getElem? (i := 1509) (by decide +kernel), List.mem_of_getElem? (i := 1510) (by decide +kernel)⟩
theorem lw_p40 : lw_okq (⟨"MicroStepsModel", "least", "(I)I"⟩, 51) := ⟨⟨by decide +kernel, by decide +kernel⟩, List.mem_of_getElem? (i := 1110) (by decide +kernel), List.mem_of_getElem? (i := 1513) (by decide +kernel), List.mem_of_getElem? (i := 1514) (by decide +kernel)⟩
theorem lw_p41 : lw_okq (⟨"MicroStepsModel", "laysTop", "(IIIII)V"⟩, 51) := ⟨⟨by decide +kernel, by decide +kernel⟩, List.mem_of_getElem? (i := 1110) (by decide +kernel), List.mem_of_getElem? (i := 1520) (by decide +kernel), List.mem_of_getElem? (i := 1521) (by decide +kernel)⟩
theorem lw_p42 : lw_okq (⟨"MicroStepsModel", "evenTicks", "(I)I"⟩, 51) := ⟨⟨by decide +kernel, by decide +kernel⟩, List.mem_of_getElem? (i := 1110) (by decide +kernel), List.mem_of_getElem? (i := 1524) (by decide +kernel), List.mem_of_getElem? (i := 1525) (by decide +kernel)⟩
theorem lw_p43 : lw_okq (⟨"MicroStepsModel", "planTicks", "()I"⟩, 51) := ⟨⟨by decide +kernel, by decide +kernel⟩, List.mem_of_getElem? (i := 1110) (by decide +kernel), List.mem_of_getElem? (i := 1531) (by decide +kernel), List.mem_of_getElem? (i := 1532) (by decide +kernel)⟩
theorem lw_p44 : lw_okq (⟨"MicroStepsModel", "bandTicks", "()I"⟩, 51) := ⟨⟨by decide +kernel, by decide +kernel⟩, List.mem_of_getElem? (i := 1110) (by decide +kernel), List.mem_of_getElem? (i := 1535) (by decide +kernel), List.mem_of_getElem? (i := 1536) (by decide +kernel)⟩
theorem lw_p45 : lw_okq (⟨"MicroStepsModel", "speedOf", "(I)I"⟩, 51) := ⟨⟨by decide +kernel, by decide +kernel⟩, List.mem_of_getElem? (i := 1110) (by decide +kernel), List.mem_of_getElem? (i := 1539) (by decide +kernel), List.mem_of_getElem? (i := 1540) (by decide +kernel)⟩
theorem lw_p46 : lw_okq (⟨"MicroStepsModel", "due", "(I)I"⟩, 51) := ⟨⟨by decide +kernel, by decide +kernel⟩, List.mem_of_getElem? (i := 1110) (by decide +kernel), List.mem_of_getElem? (i := 1557) (by decide +kernel), List.mem_of_getElem? (i := 1558) (by decide +kernel)⟩
theorem lw_p47 : lw_okq (⟨"MicroStepsModel", "pulls", "(IIII)I"⟩, 51) := ⟨⟨by decide +kernel, by decide +kernel⟩, List.mem_of_getElem? (i := 1110) (by decide +kernel), List.mem_of_getElem? (i := 1583) (by decide +kernel), List.mem_of_getElem? (i := 1584) (by decide +kernel)⟩
def lw_privs_3 : List (MethodName × Nat) := [(⟨"MicroStepsModel", "reached", "()I"⟩, 51), (⟨"MicroStepsModel", "rampSum", "()I"⟩, 51), (⟨"MicroStepsModel", "isAxis", "(I)Z"⟩, 51), (⟨"MicroStepsModel", "bandsAt", "(II)I"⟩, 51), (⟨"MicroStepsModel", "canGo", "(III)Z"⟩, 51), (⟨"MicroStepsModel", "areRight", "(III)Z"⟩, 51), (⟨"MicroStepsModel", "plans", "(III)Z"⟩, 51), (⟨"MicroStepsModel", "axisAt", "(II)I"⟩, 51), (⟨"MicroStepsModel", "least", "(I)I"⟩, 51), (⟨"MicroStepsModel", "laysTop", "(IIIII)V"⟩, 51), (⟨"MicroStepsModel", "evenTicks", "(I)I"⟩, 51), (⟨"MicroStepsModel", "planTicks", "()I"⟩, 51), (⟨"MicroStepsModel", "bandTicks", "()I"⟩, 51), (⟨"MicroStepsModel", "speedOf", "(I)I"⟩, 51), (⟨"MicroStepsModel", "due", "(I)I"⟩, 51), (⟨"MicroStepsModel", "pulls", "(IIII)I"⟩, 51)]
theorem lw_r3 : ∀ q ∈ lw_privs_3, lw_okq q := List.forall_mem_cons.mpr ⟨lw_p32, List.forall_mem_cons.mpr ⟨lw_p33, List.forall_mem_cons.mpr ⟨lw_p34, List.forall_mem_cons.mpr ⟨lw_p35, List.forall_mem_cons.mpr ⟨lw_p36, List.forall_mem_cons.mpr ⟨lw_p37, List.forall_mem_cons.mpr ⟨lw_p38, List.forall_mem_cons.mpr ⟨lw_p39, List.forall_mem_cons.mpr ⟨lw_p40, List.forall_mem_cons.mpr ⟨lw_p41, List.forall_mem_cons.mpr ⟨lw_p42, List.forall_mem_cons.mpr ⟨lw_p43, List.forall_mem_cons.mpr ⟨lw_p44, List.forall_mem_cons.mpr ⟨lw_p45, List.forall_mem_cons.mpr ⟨lw_p46, List.forall_mem_cons.mpr ⟨lw_p47, fun _ h => absurd h List.not_mem_nil⟩⟩⟩⟩⟩⟩⟩⟩⟩⟩⟩⟩⟩⟩⟩⟩
theorem lw_p48 : lw_okq (⟨"MicroStepsModel", "act", "()V"⟩, 51) := ⟨⟨by decide +kernel, by decide +kernel⟩, List.mem_of_getElem? (i := 1110) (by decide +kernel), List.mem_of_getElem? (i := 1595) (by decide +kernel), List.mem_of_getElem? (i := 1596) (by decide +kernel)⟩
theorem lw_p49 : lw_okq (⟨"MicroStepsModel", "begins", "()V"⟩, 51) := ⟨⟨by decide +kernel, by decide +kernel⟩, List.mem_of_getElem? (i := 1110) (by decide +kernel), List.mem_of_getElem? (i := 1599) (by decide +kernel), List.mem_of_getElem? (i := 1600) (by decide +kernel)⟩
theorem lw_p50 : lw_okq (⟨"MicroStepsModel", "setsAxis", "(III)V"⟩, 51) := ⟨⟨by decide +kernel, by decide +kernel⟩, List.mem_of_getElem? (i := 1110) (by decide +kernel), List.mem_of_getElem? (i := 1616) (by decide +kernel), List.mem_of_getElem? (i := 1617) (by decide +kernel)⟩
theorem lw_p51 : lw_okq (⟨"MicroStepsModel", "tick", "()V"⟩, 51) := ⟨⟨by decide +kernel, by decide +kernel⟩, List.mem_of_getElem? (i := 1110) (by decide +kernel), List.mem_of_getElem? (i := 1635) (by decide +kernel), List.mem_of_getElem? (i := 1636) (by decide +kernel)⟩
theorem lw_p52 : lw_okq (⟨"MicroStepsModel", "waitingBegins", "()V"⟩, 51) := ⟨⟨by decide +kernel, by decide +kernel⟩, List.mem_of_getElem? (i := 1110) (by decide +kernel), List.mem_of_getElem? (i := 1639) (by decide +kernel), List.mem_of_getElem? (i := 1640) (by decide +kernel)⟩
theorem lw_p53 : lw_okq (⟨"MicroStepsModel", "moves", "()V"⟩, 51) := ⟨⟨by decide +kernel, by decide +kernel⟩, List.mem_of_getElem? (i := 1110) (by decide +kernel), List.mem_of_getElem? (i := 1643) (by decide +kernel), List.mem_of_getElem? (i := 1644) (by decide +kernel)⟩
theorem lw_p54 : lw_okq (⟨"MicroStepsModel", "speedNow", "()I"⟩, 51) := ⟨⟨by decide +kernel, by decide +kernel⟩, List.mem_of_getElem? (i := 1110) (by decide +kernel), List.mem_of_getElem? (i := 1647) (by decide +kernel), List.mem_of_getElem? (i := 1648) (by decide +kernel)⟩
theorem lw_p55 : lw_okq (⟨"MicroStepsModel", "allTicks", "()I"⟩, 51) := ⟨⟨by decide +kernel, by decide +kernel⟩, List.mem_of_getElem? (i := 1110) (by decide +kernel), List.mem_of_getElem? (i := 1651) (by decide +kernel), List.mem_of_getElem? (i := 1652) (by decide +kernel)⟩
theorem lw_p56 : lw_okq (⟨"MicroStepsModel", "angle", "(I)I"⟩, 51) := ⟨⟨by decide +kernel, by decide +kernel⟩, List.mem_of_getElem? (i := 1110) (by decide +kernel), List.mem_of_getElem? (i := 1655) (by decide +kernel), List.mem_of_getElem? (i := 1656) (by decide +kernel)⟩
theorem lw_p57 : lw_okq (⟨"MicroStepsModel", "swung", "(IIII)I"⟩, 51) := ⟨⟨by decide +kernel, by decide +kernel⟩, List.mem_of_getElem? (i := 1110) (by decide +kernel), List.mem_of_getElem? (i := 1662) (by decide +kernel), List.mem_of_getElem? (i := 1663) (by decide +kernel)⟩
theorem lw_p58 : lw_okq (⟨"MicroStepsModel", "pushed", "(III)I"⟩, 51) := ⟨⟨by decide +kernel, by decide +kernel⟩, List.mem_of_getElem? (i := 1110) (by decide +kernel), List.mem_of_getElem? (i := 1666) (by decide +kernel), List.mem_of_getElem? (i := 1667) (by decide +kernel)⟩
theorem lw_p59 : lw_okq (⟨"MicroStepsModel", "trips", "()V"⟩, 51) := ⟨⟨by decide +kernel, by decide +kernel⟩, List.mem_of_getElem? (i := 1110) (by decide +kernel), List.mem_of_getElem? (i := 1671) (by decide +kernel), List.mem_of_getElem? (i := 1672) (by decide +kernel)⟩
theorem lw_p60 : lw_okq (⟨"MicroStepsModel", "left", "()I"⟩, 51) := ⟨⟨by decide +kernel, by decide +kernel⟩, List.mem_of_getElem? (i := 1110) (by decide +kernel), List.mem_of_getElem? (i := 1675) (by decide +kernel), List.mem_of_getElem? (i := 1676) (by decide +kernel)⟩
theorem lw_p61 : lw_okq (⟨"MicroStepsModel", "puts", "()V"⟩, 51) := ⟨⟨by decide +kernel, by decide +kernel⟩, List.mem_of_getElem? (i := 1110) (by decide +kernel), List.mem_of_getElem? (i := 1692) (by decide +kernel), List.mem_of_getElem? (i := 1693) (by decide +kernel)⟩
theorem lw_p62 : lw_okq (⟨"MicroStepsModel", "takesBack", "()V"⟩, 51) := ⟨⟨by decide +kernel, by decide +kernel⟩, List.mem_of_getElem? (i := 1110) (by decide +kernel), List.mem_of_getElem? (i := 1696) (by decide +kernel), List.mem_of_getElem? (i := 1697) (by decide +kernel)⟩
theorem lw_p63 : lw_okq (⟨"MicroStepsModel", "isSteady", "()Z"⟩, 51) := ⟨⟨by decide +kernel, by decide +kernel⟩, List.mem_of_getElem? (i := 1110) (by decide +kernel), List.mem_of_getElem? (i := 1704) (by decide +kernel), List.mem_of_getElem? (i := 1705) (by decide +kernel)⟩
def lw_privs_4 : List (MethodName × Nat) := [(⟨"MicroStepsModel", "act", "()V"⟩, 51), (⟨"MicroStepsModel", "begins", "()V"⟩, 51), (⟨"MicroStepsModel", "setsAxis", "(III)V"⟩, 51), (⟨"MicroStepsModel", "tick", "()V"⟩, 51), (⟨"MicroStepsModel", "waitingBegins", "()V"⟩, 51), (⟨"MicroStepsModel", "moves", "()V"⟩, 51), (⟨"MicroStepsModel", "speedNow", "()I"⟩, 51), (⟨"MicroStepsModel", "allTicks", "()I"⟩, 51), (⟨"MicroStepsModel", "angle", "(I)I"⟩, 51), (⟨"MicroStepsModel", "swung", "(IIII)I"⟩, 51), (⟨"MicroStepsModel", "pushed", "(III)I"⟩, 51), (⟨"MicroStepsModel", "trips", "()V"⟩, 51), (⟨"MicroStepsModel", "left", "()I"⟩, 51), (⟨"MicroStepsModel", "puts", "()V"⟩, 51), (⟨"MicroStepsModel", "takesBack", "()V"⟩, 51), (⟨"MicroStepsModel", "isSteady", "()Z"⟩, 51)]
theorem lw_r4 : ∀ q ∈ lw_privs_4, lw_okq q := List.forall_mem_cons.mpr ⟨lw_p48, List.forall_mem_cons.mpr ⟨lw_p49, List.forall_mem_cons.mpr ⟨lw_p50, List.forall_mem_cons.mpr ⟨lw_p51, List.forall_mem_cons.mpr ⟨lw_p52, List.forall_mem_cons.mpr ⟨lw_p53, List.forall_mem_cons.mpr ⟨lw_p54, List.forall_mem_cons.mpr ⟨lw_p55, List.forall_mem_cons.mpr ⟨lw_p56, List.forall_mem_cons.mpr ⟨lw_p57, List.forall_mem_cons.mpr ⟨lw_p58, List.forall_mem_cons.mpr ⟨lw_p59, List.forall_mem_cons.mpr ⟨lw_p60, List.forall_mem_cons.mpr ⟨lw_p61, List.forall_mem_cons.mpr ⟨lw_p62, List.forall_mem_cons.mpr ⟨lw_p63, fun _ h => absurd h List.not_mem_nil⟩⟩⟩⟩⟩⟩⟩⟩⟩⟩⟩⟩⟩⟩⟩⟩
theorem lw_p64 : lw_okq (⟨"MicroStepsModel", "bears", "(III)Z"⟩, 51) := ⟨⟨by decide +kernel, by decide +kernel⟩, List.mem_of_getElem? (i := 1110) (by decide +kernel), List.mem_of_getElem? (i := 1713) (by decide +kernel), List.mem_of_getElem? (i := 1714) (by decide +kernel)⟩
theorem lw_p65 : lw_okq (⟨"MicroStepsModel", "shakeOf", "(III)I"⟩, 51) := ⟨⟨by decide +kernel, by decide +kernel⟩, List.mem_of_getElem? (i := 1110) (by decide +kernel), List.mem_of_getElem? (i := 1725) (by decide +kernel), List.mem_of_getElem? (i := 1726) (by decide +kernel)⟩
theorem lw_p66 : lw_okq (⟨"MicroStepsModel", "laysFollow", "(II)V"⟩, 51) := ⟨⟨by decide +kernel, by decide +kernel⟩, List.mem_of_getElem? (i := 1110) (by decide +kernel), List.mem_of_getElem? (i := 1763) (by decide +kernel), List.mem_of_getElem? (i := 1764) (by decide +kernel)⟩
def lw_privs_5 : List (MethodName × Nat) := [(⟨"MicroStepsModel", "bears", "(III)Z"⟩, 51), (⟨"MicroStepsModel", "shakeOf", "(III)I"⟩, 51), (⟨"MicroStepsModel", "laysFollow", "(II)V"⟩, 51)]
theorem lw_r5 : ∀ q ∈ lw_privs_5, lw_okq q := List.forall_mem_cons.mpr ⟨lw_p64, List.forall_mem_cons.mpr ⟨lw_p65, List.forall_mem_cons.mpr ⟨lw_p66, fun _ h => absurd h List.not_mem_nil⟩⟩⟩
def lw_privs : List (MethodName × Nat) := lw_privs_1 ++ (lw_privs_2 ++ (lw_privs_3 ++ (lw_privs_4 ++ (lw_privs_5))))
def lw_tbl : List Cond := k2_sels lw_privs ++ tables_1
theorem lw_privs_ok : ∀ q ∈ lw_privs, lw_okq q := by
  show ∀ q ∈ lw_privs_1 ++ (lw_privs_2 ++ (lw_privs_3 ++ (lw_privs_4 ++ (lw_privs_5)))), lw_okq q
  exact List.forall_mem_append.mpr ⟨lw_r1, List.forall_mem_append.mpr ⟨lw_r2, List.forall_mem_append.mpr ⟨lw_r3, List.forall_mem_append.mpr ⟨lw_r4, lw_r5⟩⟩⟩⟩
-- ===== end of PART A; then your names; then what follows =====
def RX0 : String := "MicroSteps$Axis"
def TX0 : u_T := fun k => match k with
  | 0 => ("MicroSteps$Axis", "name", "I", false)
  | 1 => ("MicroSteps$Axis", "speed", "I", false)
  | 2 => ("MicroSteps$Axis", "gain", "I", false)
  | 3 => ("MicroSteps$Axis", "jerk", "I", false)
  | 4 => ("MicroSteps$Axis", "hold", "I", false)
  | 5 => ("MicroSteps$Axis", "mass", "I", false)
  | 6 => ("MicroSteps$Axis", "damp", "I", false)
  | _ => ("MicroSteps$Axis", "motorTold", "Z", false)
def tyX0 : Nat → FieldType := fun k => match k with
  | 0 => .int
  | 1 => .int
  | 2 => .int
  | 3 => .int
  | 4 => .int
  | 5 => .int
  | 6 => .int
  | _ => .boolean
abbrev wsX00 : List Cond := u_ws RX0 TX0 8
theorem nmX0 : ∀ a, a < 8 → ∀ b, b < 8 → a ≠ b → (TX0 a).2.1 ≠ (TX0 b).2.1 := by decide +kernel
theorem tyX0_ok : ∀ k, k < 8 → parseFieldDescriptor (TX0 k).2.2.1 = some (tyX0 k) := by decide +kernel
abbrev cX0_init : ByteArray := prog_2_method_1_code
def yX0_init : MethodName := ⟨RX0, "<init>", "()V"⟩
abbrev cX0_clear : ByteArray := prog_2_method_2_code
def yX0_clear : MethodName := ⟨RX0, "clear", "(I)V"⟩
def RX1 : String := "MicroSteps$Bench"
def TX1 : u_T := fun k => match k with
  | 0 => ("MicroSteps$Bench", "axes", "[LMicroSteps$Axis;", true)
  | 1 => ("MicroSteps$Bench", "bandAxis", "[I", true)
  | 2 => ("MicroSteps$Bench", "bandFrom", "[I", true)
  | 3 => ("MicroSteps$Bench", "bandTo", "[I", true)
  | 4 => ("MicroSteps$Bench", "table", "LMicroSteps$Table;", true)
  | 5 => ("MicroSteps$Bench", "isFixed", "[Z", true)
  | 6 => ("MicroSteps$Bench", "axisCount", "I", false)
  | 7 => ("MicroSteps$Bench", "bandCount", "I", false)
  | 8 => ("MicroSteps$Bench", "correctionCount", "I", false)
  | 9 => ("MicroSteps$Bench", "supply", "I", false)
  | 10 => ("MicroSteps$Bench", "loss", "I", false)
  | _ => ("MicroSteps$Bench", "coilTold", "Z", false)
def tyX1 : Nat → FieldType := fun k => match k with
  | 0 => .array (.object "MicroSteps$Axis")
  | 1 => .array .int
  | 2 => .array .int
  | 3 => .array .int
  | 4 => .object "MicroSteps$Table"
  | 5 => .array .boolean
  | 6 => .int
  | 7 => .int
  | 8 => .int
  | 9 => .int
  | 10 => .int
  | _ => .boolean
abbrev wsX10 : List Cond := u_ws RX1 TX1 12
theorem nmX1 : ∀ a, a < 12 → ∀ b, b < 12 → a ≠ b → (TX1 a).2.1 ≠ (TX1 b).2.1 := by decide +kernel
theorem tyX1_ok : ∀ k, k < 12 → parseFieldDescriptor (TX1 k).2.2.1 = some (tyX1 k) := by decide +kernel
abbrev cX1_init : ByteArray := prog_3_method_1_code
def yX1_init : MethodName := ⟨RX1, "<init>", "()V"⟩
abbrev cX1_clear : ByteArray := prog_3_method_2_code
def yX1_clear : MethodName := ⟨RX1, "clear", "()V"⟩
abbrev cX1_axisNamed : ByteArray := prog_3_method_3_code
def yX1_axisNamed : MethodName := ⟨RX1, "axisNamed", "(I)I"⟩
abbrev cX1_bandsOver : ByteArray := prog_3_method_4_code
def yX1_bandsOver : MethodName := ⟨RX1, "bandsOver", "(II)I"⟩
def RX2 : String := "MicroSteps$Coil"
def TX2 : u_T := fun k => match k with
  | 0 => ("MicroSteps$Coil", "current", "I", false)
  | 1 => ("MicroSteps$Coil", "phase", "I", false)
  | 2 => ("MicroSteps$Coil", "fastTicks", "I", false)
  | 3 => ("MicroSteps$Coil", "supply", "I", false)
  | _ => ("MicroSteps$Coil", "loss", "I", false)
def tyX2 : Nat → FieldType := fun k => match k with
  | 0 => .int
  | 1 => .int
  | 2 => .int
  | 3 => .int
  | _ => .int
abbrev wsX20 : List Cond := u_ws RX2 TX2 5
theorem nmX2 : ∀ a, a < 5 → ∀ b, b < 5 → a ≠ b → (TX2 a).2.1 ≠ (TX2 b).2.1 := by decide +kernel
theorem tyX2_ok : ∀ k, k < 5 → parseFieldDescriptor (TX2 k).2.2.1 = some (tyX2 k) := by decide +kernel
abbrev cX2_init : ByteArray := prog_4_method_1_code
def yX2_init : MethodName := ⟨RX2, "<init>", "()V"⟩
abbrev cX2_start : ByteArray := prog_4_method_2_code
def yX2_start : MethodName := ⟨RX2, "start", "(LMicroSteps$Bench;I)V"⟩
abbrev cX2_step : ByteArray := prog_4_method_3_code
def yX2_step : MethodName := ⟨RX2, "step", "(I)V"⟩
def RX3 : String := "MicroSteps$History"
def TX3 : u_T := fun k => match k with
  | 0 => ("MicroSteps$History", "ring", "[LMicroSteps$State;", true)
  | 1 => ("MicroSteps$History", "next", "I", false)
  | _ => ("MicroSteps$History", "kept", "I", false)
def tyX3 : Nat → FieldType := fun k => match k with
  | 0 => .array (.object "MicroSteps$State")
  | 1 => .int
  | _ => .int
abbrev wsX30 : List Cond := u_ws RX3 TX3 3
theorem nmX3 : ∀ a, a < 3 → ∀ b, b < 3 → a ≠ b → (TX3 a).2.1 ≠ (TX3 b).2.1 := by decide +kernel
theorem tyX3_ok : ∀ k, k < 3 → parseFieldDescriptor (TX3 k).2.2.1 = some (tyX3 k) := by decide +kernel
abbrev cX3_init : ByteArray := prog_5_method_1_code
def yX3_init : MethodName := ⟨RX3, "<init>", "()V"⟩
abbrev cX3_keep : ByteArray := prog_5_method_2_code
def yX3_keep : MethodName := ⟨RX3, "keep", "(LMicroSteps$State;)V"⟩
abbrev cX3_takeBack : ByteArray := prog_5_method_3_code
def yX3_takeBack : MethodName := ⟨RX3, "takeBack", "(LMicroSteps$State;)V"⟩
def RX4 : String := "MicroSteps$Move"
def TX4 : u_T := fun k => match k with
  | 0 => ("MicroSteps$Move", "from", "[I", true)
  | 1 => ("MicroSteps$Move", "by", "[I", true)
  | 2 => ("MicroSteps$Move", "ramp", "LMicroSteps$Ramp;", true)
  | 3 => ("MicroSteps$Move", "lead", "I", false)
  | 4 => ("MicroSteps$Move", "way", "I", false)
  | 5 => ("MicroSteps$Move", "speed", "I", false)
  | 6 => ("MicroSteps$Move", "gain", "I", false)
  | 7 => ("MicroSteps$Move", "jerk", "I", false)
  | 8 => ("MicroSteps$Move", "rest", "I", false)
  | _ => ("MicroSteps$Move", "restTicks", "I", false)
def tyX4 : Nat → FieldType := fun k => match k with
  | 0 => .array .int
  | 1 => .array .int
  | 2 => .object "MicroSteps$Ramp"
  | 3 => .int
  | 4 => .int
  | 5 => .int
  | 6 => .int
  | 7 => .int
  | 8 => .int
  | _ => .int
abbrev wsX40 : List Cond := u_ws RX4 TX4 10
theorem nmX4 : ∀ a, a < 10 → ∀ b, b < 10 → a ≠ b → (TX4 a).2.1 ≠ (TX4 b).2.1 := by decide +kernel
theorem tyX4_ok : ∀ k, k < 10 → parseFieldDescriptor (TX4 k).2.2.1 = some (tyX4 k) := by decide +kernel
abbrev cX4_init : ByteArray := prog_6_method_1_code
def yX4_init : MethodName := ⟨RX4, "<init>", "()V"⟩
abbrev cX4_plan : ByteArray := prog_6_method_2_code
def yX4_plan : MethodName := ⟨RX4, "plan", "([LMicroSteps$Rotor;[ILMicroSteps$Bench;)Z"⟩
abbrev cX4_startAlone : ByteArray := prog_6_method_3_code
def yX4_startAlone : MethodName := ⟨RX4, "startAlone", "(LMicroSteps$Bench;II)I"⟩
abbrev cX4_findLimits : ByteArray := prog_6_method_4_code
def yX4_findLimits : MethodName := ⟨RX4, "findLimits", "(LMicroSteps$Bench;)V"⟩
abbrev cX4_takeTop : ByteArray := prog_6_method_5_code
def yX4_takeTop : MethodName := ⟨RX4, "takeTop", "(LMicroSteps$Bench;I)Z"⟩
abbrev cX4_wayOf : ByteArray := prog_6_method_6_code
def yX4_wayOf : MethodName := ⟨RX4, "wayOf", "(I)I"⟩
abbrev cX4_ticks : ByteArray := prog_6_method_7_code
def yX4_ticks : MethodName := ⟨RX4, "ticks", "()I"⟩
abbrev cX4_goneBehind : ByteArray := prog_6_method_8_code
def yX4_goneBehind : MethodName := ⟨RX4, "goneBehind", "(I)I"⟩
abbrev cX4_placeOf : ByteArray := prog_6_method_9_code
def yX4_placeOf : MethodName := ⟨RX4, "placeOf", "(II)I"⟩
abbrev cX4_leadFor : ByteArray := prog_6_method_10_code
def yX4_leadFor : MethodName := ⟨RX4, "leadFor", "(II)I"⟩
abbrev cX4_dueAt : ByteArray := prog_6_method_11_code
def yX4_dueAt : MethodName := ⟨RX4, "dueAt", "(I)I"⟩
abbrev cX4_ticksInBands : ByteArray := prog_6_method_12_code
def yX4_ticksInBands : MethodName := ⟨RX4, "ticksInBands", "(LMicroSteps$Bench;)I"⟩
abbrev cX4_greatestChange : ByteArray := prog_6_method_13_code
def yX4_greatestChange : MethodName := ⟨RX4, "greatestChange", "(Z)I"⟩
abbrev cX4_copyFrom : ByteArray := prog_6_method_14_code
def yX4_copyFrom : MethodName := ⟨RX4, "copyFrom", "(LMicroSteps$Move;)V"⟩
def RX5 : String := "MicroSteps$Ramp"
def TX5 : u_T := fun k => match k with
  | 0 => ("MicroSteps$Ramp", "gone", "[I", true)
  | _ => ("MicroSteps$Ramp", "ticks", "I", false)
def tyX5 : Nat → FieldType := fun k => match k with
  | 0 => .array .int
  | _ => .int
abbrev wsX50 : List Cond := u_ws RX5 TX5 2
theorem nmX5 : ∀ a, a < 2 → ∀ b, b < 2 → a ≠ b → (TX5 a).2.1 ≠ (TX5 b).2.1 := by decide +kernel
theorem tyX5_ok : ∀ k, k < 2 → parseFieldDescriptor (TX5 k).2.2.1 = some (tyX5 k) := by decide +kernel
abbrev cX5_init : ByteArray := prog_7_method_1_code
def yX5_init : MethodName := ⟨RX5, "<init>", "()V"⟩
abbrev cX5_build : ByteArray := prog_7_method_2_code
def yX5_build : MethodName := ⟨RX5, "build", "(III)V"⟩
abbrev cX5_nextGain : ByteArray := prog_7_method_3_code
def yX5_nextGain : MethodName := ⟨RX5, "nextGain", "(IIII)I"⟩
abbrev cX5_speedIn : ByteArray := prog_7_method_4_code
def yX5_speedIn : MethodName := ⟨RX5, "speedIn", "(I)I"⟩
abbrev cX5_reached : ByteArray := prog_7_method_5_code
def yX5_reached : MethodName := ⟨RX5, "reached", "()I"⟩
abbrev cX5_micros : ByteArray := prog_7_method_6_code
def yX5_micros : MethodName := ⟨RX5, "micros", "()I"⟩
abbrev cX5_copyFrom : ByteArray := prog_7_method_7_code
def yX5_copyFrom : MethodName := ⟨RX5, "copyFrom", "(LMicroSteps$Ramp;)V"⟩
def RX6 : String := "MicroSteps$Reader"
def TX6 : u_T := fun k => match k with
  | 0 => ("MicroSteps$Reader", "text", "LMicroSteps$Tape;", true)
  | 1 => ("MicroSteps$Reader", "into", "LMicroSteps$Bench;", false)
  | 2 => ("MicroSteps$Reader", "behind", "I", false)
  | 3 => ("MicroSteps$Reader", "kind", "I", false)
  | 4 => ("MicroSteps$Reader", "start", "I", false)
  | 5 => ("MicroSteps$Reader", "value", "I", false)
  | 6 => ("MicroSteps$Reader", "number", "I", false)
  | 7 => ("MicroSteps$Reader", "fault", "I", false)
  | _ => ("MicroSteps$Reader", "place", "I", false)
def tyX6 : Nat → FieldType := fun k => match k with
  | 0 => .object "MicroSteps$Tape"
  | 1 => .object "MicroSteps$Bench"
  | 2 => .int
  | 3 => .int
  | 4 => .int
  | 5 => .int
  | 6 => .int
  | 7 => .int
  | _ => .int
abbrev wsX60 : List Cond := u_ws RX6 TX6 9
theorem nmX6 : ∀ a, a < 9 → ∀ b, b < 9 → a ≠ b → (TX6 a).2.1 ≠ (TX6 b).2.1 := by decide +kernel
theorem tyX6_ok : ∀ k, k < 9 → parseFieldDescriptor (TX6 k).2.2.1 = some (tyX6 k) := by decide +kernel
abbrev cX6_init : ByteArray := prog_8_method_1_code
def yX6_init : MethodName := ⟨RX6, "<init>", "(LMicroSteps$Tape;LMicroSteps$Bench;)V"⟩
abbrev cX6_start : ByteArray := prog_8_method_2_code
def yX6_start : MethodName := ⟨RX6, "start", "(LMicroSteps$Bench;)V"⟩
abbrev cX6_hasMore : ByteArray := prog_8_method_3_code
def yX6_hasMore : MethodName := ⟨RX6, "hasMore", "()Z"⟩
abbrev cX6_readLine : ByteArray := prog_8_method_4_code
def yX6_readLine : MethodName := ⟨RX6, "readLine", "()Z"⟩
abbrev cX6_readAxis : ByteArray := prog_8_method_5_code
def yX6_readAxis : MethodName := ⟨RX6, "readAxis", "()Z"⟩
abbrev cX6_readMotor : ByteArray := prog_8_method_6_code
def yX6_readMotor : MethodName := ⟨RX6, "readMotor", "()Z"⟩
abbrev cX6_readBand : ByteArray := prog_8_method_7_code
def yX6_readBand : MethodName := ⟨RX6, "readBand", "()Z"⟩
abbrev cX6_readFix : ByteArray := prog_8_method_8_code
def yX6_readFix : MethodName := ⟨RX6, "readFix", "()Z"⟩
abbrev cX6_readCoil : ByteArray := prog_8_method_9_code
def yX6_readCoil : MethodName := ⟨RX6, "readCoil", "()Z"⟩
abbrev cX6_takeAxis : ByteArray := prog_8_method_10_code
def yX6_takeAxis : MethodName := ⟨RX6, "takeAxis", "(Z)I"⟩
abbrev cX6_takeWord : ByteArray := prog_8_method_11_code
def yX6_takeWord : MethodName := ⟨RX6, "takeWord", "(Ljava/lang/String;)Z"⟩
abbrev cX6_takeNumber : ByteArray := prog_8_method_12_code
def yX6_takeNumber : MethodName := ⟨RX6, "takeNumber", "(II)Z"⟩
abbrev cX6_takeStop : ByteArray := prog_8_method_13_code
def yX6_takeStop : MethodName := ⟨RX6, "takeStop", "()Z"⟩
abbrev cX6_refuse : ByteArray := prog_8_method_14_code
def yX6_refuse : MethodName := ⟨RX6, "refuse", "(I)Z"⟩
abbrev cX6_isWord : ByteArray := prog_8_method_15_code
def yX6_isWord : MethodName := ⟨RX6, "isWord", "(Ljava/lang/String;)Z"⟩
abbrev cX6_isName : ByteArray := prog_8_method_16_code
def yX6_isName : MethodName := ⟨RX6, "isName", "()Z"⟩
abbrev cX6_codeOf : ByteArray := prog_8_method_17_code
def yX6_codeOf : MethodName := ⟨RX6, "codeOf", "(Ljava/lang/String;)I"⟩
abbrev cX6_step : ByteArray := prog_8_method_18_code
def yX6_step : MethodName := ⟨RX6, "step", "()V"⟩
abbrev cX6_stepWord : ByteArray := prog_8_method_19_code
def yX6_stepWord : MethodName := ⟨RX6, "stepWord", "()V"⟩
abbrev cX6_stepNumber : ByteArray := prog_8_method_20_code
def yX6_stepNumber : MethodName := ⟨RX6, "stepNumber", "()V"⟩
abbrev cX6_isBlank : ByteArray := prog_8_method_21_code
def yX6_isBlank : MethodName := ⟨RX6, "isBlank", "(I)Z"⟩
abbrev cX6_isLetter : ByteArray := prog_8_method_22_code
def yX6_isLetter : MethodName := ⟨RX6, "isLetter", "(I)Z"⟩
abbrev cX6_isDigit : ByteArray := prog_8_method_23_code
def yX6_isDigit : MethodName := ⟨RX6, "isDigit", "(I)Z"⟩
def RX7 : String := "MicroSteps$Rotor"
def TX7 : u_T := fun k => match k with
  | 0 => ("MicroSteps$Rotor", "at", "I", false)
  | 1 => ("MicroSteps$Rotor", "place", "I", false)
  | 2 => ("MicroSteps$Rotor", "swing", "I", false)
  | 3 => ("MicroSteps$Rotor", "load", "I", false)
  | 4 => ("MicroSteps$Rotor", "limit", "I", false)
  | _ => ("MicroSteps$Rotor", "stalledIn", "I", false)
def tyX7 : Nat → FieldType := fun k => match k with
  | 0 => .int
  | 1 => .int
  | 2 => .int
  | 3 => .int
  | 4 => .int
  | _ => .int
abbrev wsX70 : List Cond := u_ws RX7 TX7 6
theorem nmX7 : ∀ a, a < 6 → ∀ b, b < 6 → a ≠ b → (TX7 a).2.1 ≠ (TX7 b).2.1 := by decide +kernel
theorem tyX7_ok : ∀ k, k < 6 → parseFieldDescriptor (TX7 k).2.2.1 = some (tyX7 k) := by decide +kernel
abbrev cX7_init : ByteArray := prog_9_method_1_code
def yX7_init : MethodName := ⟨RX7, "<init>", "()V"⟩
abbrev cX7_clear : ByteArray := prog_9_method_2_code
def yX7_clear : MethodName := ⟨RX7, "clear", "()V"⟩
abbrev cX7_letGo : ByteArray := prog_9_method_3_code
def yX7_letGo : MethodName := ⟨RX7, "letGo", "(II)V"⟩
abbrev cX7_angle : ByteArray := prog_9_method_4_code
def yX7_angle : MethodName := ⟨RX7, "angle", "()I"⟩
abbrev cX7_truePlace : ByteArray := prog_9_method_5_code
def yX7_truePlace : MethodName := ⟨RX7, "truePlace", "()I"⟩
abbrev cX7_push : ByteArray := prog_9_method_6_code
def yX7_push : MethodName := ⟨RX7, "push", "(LMicroSteps$Axis;LMicroSteps$Table;)I"⟩
abbrev cX7_turn : ByteArray := prog_9_method_7_code
def yX7_turn : MethodName := ⟨RX7, "turn", "(LMicroSteps$Axis;LMicroSteps$Table;)V"⟩
abbrev cX7_isCalm : ByteArray := prog_9_method_8_code
def yX7_isCalm : MethodName := ⟨RX7, "isCalm", "(LMicroSteps$Axis;LMicroSteps$Table;)Z"⟩
abbrev cX7_isOffBy : ByteArray := prog_9_method_9_code
def yX7_isOffBy : MethodName := ⟨RX7, "isOffBy", "(I)Z"⟩
abbrev cX7_copyFrom : ByteArray := prog_9_method_10_code
def yX7_copyFrom : MethodName := ⟨RX7, "copyFrom", "(LMicroSteps$Rotor;)V"⟩
def RX8 : String := "MicroSteps$State"
def TX8 : u_T := fun k => match k with
  | 0 => ("MicroSteps$State", "rotors", "[LMicroSteps$Rotor;", true)
  | 1 => ("MicroSteps$State", "move", "LMicroSteps$Move;", true)
  | 2 => ("MicroSteps$State", "waits", "[I", true)
  | 3 => ("MicroSteps$State", "first", "[I", true)
  | 4 => ("MicroSteps$State", "waiting", "I", false)
  | 5 => ("MicroSteps$State", "ticks", "I", false)
  | 6 => ("MicroSteps$State", "trippedIn", "I", false)
  | 7 => ("MicroSteps$State", "trippedBy", "I", false)
  | 8 => ("MicroSteps$State", "on", "Z", false)
  | 9 => ("MicroSteps$State", "halted", "Z", false)
  | 10 => ("MicroSteps$State", "left", "I", false)
  | 11 => ("MicroSteps$State", "done", "I", false)
  | _ => ("MicroSteps$State", "latest", "I", false)
def tyX8 : Nat → FieldType := fun k => match k with
  | 0 => .array (.object "MicroSteps$Rotor")
  | 1 => .object "MicroSteps$Move"
  | 2 => .array .int
  | 3 => .array .int
  | 4 => .int
  | 5 => .int
  | 6 => .int
  | 7 => .int
  | 8 => .boolean
  | 9 => .boolean
  | 10 => .int
  | 11 => .int
  | _ => .int
abbrev wsX80 : List Cond := u_ws RX8 TX8 13
theorem nmX8 : ∀ a, a < 13 → ∀ b, b < 13 → a ≠ b → (TX8 a).2.1 ≠ (TX8 b).2.1 := by decide +kernel
theorem tyX8_ok : ∀ k, k < 13 → parseFieldDescriptor (TX8 k).2.2.1 = some (tyX8 k) := by decide +kernel
abbrev cX8_init : ByteArray := prog_10_method_1_code
def yX8_init : MethodName := ⟨RX8, "<init>", "()V"⟩
abbrev cX8_clear : ByteArray := prog_10_method_2_code
def yX8_clear : MethodName := ⟨RX8, "clear", "()V"⟩
abbrev cX8_stop : ByteArray := prog_10_method_3_code
def yX8_stop : MethodName := ⟨RX8, "stop", "()V"⟩
abbrev cX8_begin : ByteArray := prog_10_method_4_code
def yX8_begin : MethodName := ⟨RX8, "begin", "([ILMicroSteps$Bench;)V"⟩
abbrev cX8_haltBy : ByteArray := prog_10_method_5_code
def yX8_haltBy : MethodName := ⟨RX8, "haltBy", "(LMicroSteps$Ramp;)V"⟩
abbrev cX8_addWaiting : ByteArray := prog_10_method_6_code
def yX8_addWaiting : MethodName := ⟨RX8, "addWaiting", "([I)V"⟩
abbrev cX8_takeWaiting : ByteArray := prog_10_method_7_code
def yX8_takeWaiting : MethodName := ⟨RX8, "takeWaiting", "()V"⟩
abbrev cX8_tick : ByteArray := prog_10_method_8_code
def yX8_tick : MethodName := ⟨RX8, "tick", "(LMicroSteps$Bench;)V"⟩
abbrev cX8_advance : ByteArray := prog_10_method_9_code
def yX8_advance : MethodName := ⟨RX8, "advance", "()V"⟩
abbrev cX8_tripIfOver : ByteArray := prog_10_method_10_code
def yX8_tripIfOver : MethodName := ⟨RX8, "tripIfOver", "(I)V"⟩
abbrev cX8_microsLeft : ByteArray := prog_10_method_11_code
def yX8_microsLeft : MethodName := ⟨RX8, "microsLeft", "()I"⟩
abbrev cX8_isSteady : ByteArray := prog_10_method_12_code
def yX8_isSteady : MethodName := ⟨RX8, "isSteady", "(LMicroSteps$Bench;)Z"⟩
abbrev cX8_copyFrom : ByteArray := prog_10_method_13_code
def yX8_copyFrom : MethodName := ⟨RX8, "copyFrom", "(LMicroSteps$State;)V"⟩
def RX9 : String := "MicroSteps$Table"
def TX9 : u_T := fun k => match k with
  | 0 => ("MicroSteps$Table", "plain", "[I", true)
  | _ => ("MicroSteps$Table", "fixed", "[I", true)
def tyX9 : Nat → FieldType := fun k => match k with
  | 0 => .array .int
  | _ => .array .int
abbrev wsX90 : List Cond := u_ws RX9 TX9 2
theorem nmX9 : ∀ a, a < 2 → ∀ b, b < 2 → a ≠ b → (TX9 a).2.1 ≠ (TX9 b).2.1 := by decide +kernel
theorem tyX9_ok : ∀ k, k < 2 → parseFieldDescriptor (TX9 k).2.2.1 = some (tyX9 k) := by decide +kernel
abbrev cX9_init : ByteArray := prog_11_method_1_code
def yX9_init : MethodName := ⟨RX9, "<init>", "()V"⟩
abbrev cX9_clear : ByteArray := prog_11_method_2_code
def yX9_clear : MethodName := ⟨RX9, "clear", "()V"⟩
abbrev cX9_wave : ByteArray := prog_11_method_3_code
def yX9_wave : MethodName := ⟨RX9, "wave", "([II)I"⟩
abbrev cX9_rootAt : ByteArray := prog_11_method_4_code
def yX9_rootAt : MethodName := ⟨RX9, "rootAt", "([II)I"⟩
abbrev cX9_squareRoot : ByteArray := prog_11_method_5_code
def yX9_squareRoot : MethodName := ⟨RX9, "squareRoot", "(I)I"⟩
abbrev cX9_rootsOf : ByteArray := prog_11_method_6_code
def yX9_rootsOf : MethodName := ⟨RX9, "rootsOf", "([II)I"⟩
abbrev cX9_bestAt : ByteArray := prog_11_method_7_code
def yX9_bestAt : MethodName := ⟨RX9, "bestAt", "([II)I"⟩
def RX10 : String := "MicroSteps$Tape"
def TX10 : u_T := fun k => match k with
  | 0 => ("MicroSteps$Tape", "bytes", "[B", true)
  | _ => ("MicroSteps$Tape", "length", "I", false)
def tyX10 : Nat → FieldType := fun k => match k with
  | 0 => .array .byte
  | _ => .int
abbrev wsX100 : List Cond := u_ws RX10 TX10 2
theorem nmX10 : ∀ a, a < 2 → ∀ b, b < 2 → a ≠ b → (TX10 a).2.1 ≠ (TX10 b).2.1 := by decide +kernel
theorem tyX10_ok : ∀ k, k < 2 → parseFieldDescriptor (TX10 k).2.2.1 = some (tyX10 k) := by decide +kernel
abbrev cX10_init : ByteArray := prog_12_method_1_code
def yX10_init : MethodName := ⟨RX10, "<init>", "()V"⟩
abbrev cX10_put : ByteArray := prog_12_method_2_code
def yX10_put : MethodName := ⟨RX10, "put", "(I)V"⟩
abbrev cX10_byteAt : ByteArray := prog_12_method_3_code
def yX10_byteAt : MethodName := ⟨RX10, "byteAt", "(I)I"⟩
def RX11 : String := "MicroSteps"
def TX11 : u_T := fun k => match k with
  | 0 => ("MicroSteps", "tape", "LMicroSteps$Tape;", true)
  | 1 => ("MicroSteps", "reader", "LMicroSteps$Reader;", true)
  | 2 => ("MicroSteps", "state", "LMicroSteps$State;", true)
  | 3 => ("MicroSteps", "ahead", "LMicroSteps$State;", true)
  | 4 => ("MicroSteps", "history", "LMicroSteps$History;", true)
  | 5 => ("MicroSteps", "asked", "LMicroSteps$Move;", true)
  | 6 => ("MicroSteps", "askedRamp", "LMicroSteps$Ramp;", true)
  | 7 => ("MicroSteps", "probe", "LMicroSteps$Rotor;", true)
  | 8 => ("MicroSteps", "probeCoil", "LMicroSteps$Coil;", true)
  | 9 => ("MicroSteps", "goal", "[I", true)
  | 10 => ("MicroSteps", "tried", "[I", true)
  | 11 => ("MicroSteps", "bench", "LMicroSteps$Bench;", false)
  | _ => ("MicroSteps", "spare", "LMicroSteps$Bench;", false)
def tyX11 : Nat → FieldType := fun k => match k with
  | 0 => .object "MicroSteps$Tape"
  | 1 => .object "MicroSteps$Reader"
  | 2 => .object "MicroSteps$State"
  | 3 => .object "MicroSteps$State"
  | 4 => .object "MicroSteps$History"
  | 5 => .object "MicroSteps$Move"
  | 6 => .object "MicroSteps$Ramp"
  | 7 => .object "MicroSteps$Rotor"
  | 8 => .object "MicroSteps$Coil"
  | 9 => .array .int
  | 10 => .array .int
  | 11 => .object "MicroSteps$Bench"
  | _ => .object "MicroSteps$Bench"
abbrev wsX110 : List Cond := u_ws RX11 TX11 13
theorem nmX11 : ∀ a, a < 13 → ∀ b, b < 13 → a ≠ b → (TX11 a).2.1 ≠ (TX11 b).2.1 := by decide +kernel
theorem tyX11_ok : ∀ k, k < 13 → parseFieldDescriptor (TX11 k).2.2.1 = some (tyX11 k) := by decide +kernel
abbrev cX11_init : ByteArray := prog_1_method_1_code
def yX11_init : MethodName := ⟨RX11, "<init>", "()V"⟩
abbrev cX11_feed : ByteArray := prog_1_method_2_code
def yX11_feed : MethodName := ⟨RX11, "feed", "(IIIII)I"⟩
abbrev cX11_end : ByteArray := prog_1_method_3_code
def yX11_end : MethodName := ⟨RX11, "end", "(I)I"⟩
abbrev cX11_bench : ByteArray := prog_1_method_4_code
def yX11_bench : MethodName := ⟨RX11, "bench", "()I"⟩
abbrev cX11_fault : ByteArray := prog_1_method_5_code
def yX11_fault : MethodName := ⟨RX11, "fault", "(I)I"⟩
abbrev cX11_table : ByteArray := prog_1_method_6_code
def yX11_table : MethodName := ⟨RX11, "table", "(II)I"⟩
abbrev cX11_current : ByteArray := prog_1_method_7_code
def yX11_current : MethodName := ⟨RX11, "current", "(II)I"⟩
abbrev cX11_field : ByteArray := prog_1_method_8_code
def yX11_field : MethodName := ⟨RX11, "field", "(I)I"⟩
abbrev cX11_mend : ByteArray := prog_1_method_9_code
def yX11_mend : MethodName := ⟨RX11, "mend", "(I)I"⟩
abbrev cX11_tuned : ByteArray := prog_1_method_10_code
def yX11_tuned : MethodName := ⟨RX11, "tuned", "(I)I"⟩
abbrev cX11_ramp : ByteArray := prog_1_method_11_code
def yX11_ramp : MethodName := ⟨RX11, "ramp", "(IIII)I"⟩
abbrev cX11_rampAt : ByteArray := prog_1_method_12_code
def yX11_rampAt : MethodName := ⟨RX11, "rampAt", "(IIII)I"⟩
abbrev cX11_path : ByteArray := prog_1_method_13_code
def yX11_path : MethodName := ⟨RX11, "path", "(IIII)I"⟩
abbrev cX11_pathAt : ByteArray := prog_1_method_14_code
def yX11_pathAt : MethodName := ⟨RX11, "pathAt", "(IIIII)I"⟩
abbrev cX11_stamp : ByteArray := prog_1_method_15_code
def yX11_stamp : MethodName := ⟨RX11, "stamp", "(IIIII)I"⟩
abbrev cX11_peak : ByteArray := prog_1_method_16_code
def yX11_peak : MethodName := ⟨RX11, "peak", "(IIII)I"⟩
abbrev cX11_needed : ByteArray := prog_1_method_17_code
def yX11_needed : MethodName := ⟨RX11, "needed", "(III)I"⟩
abbrev cX11_most : ByteArray := prog_1_method_18_code
def yX11_most : MethodName := ⟨RX11, "most", "(IIII)I"⟩
abbrev cX11_drives : ByteArray := prog_1_method_19_code
def yX11_drives : MethodName := ⟨RX11, "drives", "(IIIIII)I"⟩
abbrev cX11_quickest : ByteArray := prog_1_method_20_code
def yX11_quickest : MethodName := ⟨RX11, "quickest", "(III)I"⟩
abbrev cX11_go : ByteArray := prog_1_method_21_code
def yX11_go : MethodName := ⟨RX11, "go", "(III)I"⟩
abbrev cX11_halt : ByteArray := prog_1_method_22_code
def yX11_halt : MethodName := ⟨RX11, "halt", "()I"⟩
abbrev cX11_run : ByteArray := prog_1_method_23_code
def yX11_run : MethodName := ⟨RX11, "run", "(I)I"⟩
abbrev cX11_queue : ByteArray := prog_1_method_24_code
def yX11_queue : MethodName := ⟨RX11, "queue", "(III)I"⟩
abbrev cX11_watch : ByteArray := prog_1_method_25_code
def yX11_watch : MethodName := ⟨RX11, "watch", "(II)I"⟩
abbrev cX11_load : ByteArray := prog_1_method_26_code
def yX11_load : MethodName := ⟨RX11, "load", "(II)I"⟩
abbrev cX11_trueUp : ByteArray := prog_1_method_27_code
def yX11_trueUp : MethodName := ⟨RX11, "trueUp", "()I"⟩
abbrev cX11_undo : ByteArray := prog_1_method_28_code
def yX11_undo : MethodName := ⟨RX11, "undo", "()I"⟩
abbrev cX11_axis : ByteArray := prog_1_method_29_code
def yX11_axis : MethodName := ⟨RX11, "axis", "(II)I"⟩
abbrev cX11_now : ByteArray := prog_1_method_30_code
def yX11_now : MethodName := ⟨RX11, "now", "(II)I"⟩
abbrev cX11_bands : ByteArray := prog_1_method_31_code
def yX11_bands : MethodName := ⟨RX11, "bands", "(II)I"⟩
abbrev cX11_stallIn : ByteArray := prog_1_method_32_code
def yX11_stallIn : MethodName := ⟨RX11, "stallIn", "(I)I"⟩
abbrev cX11_calmIn : ByteArray := prog_1_method_33_code
def yX11_calmIn : MethodName := ⟨RX11, "calmIn", "()I"⟩
abbrev cX11_carries : ByteArray := prog_1_method_34_code
def yX11_carries : MethodName := ⟨RX11, "carries", "(II)I"⟩
abbrev cX11_strain : ByteArray := prog_1_method_35_code
def yX11_strain : MethodName := ⟨RX11, "strain", "(II)I"⟩
abbrev cX11_swings : ByteArray := prog_1_method_36_code
def yX11_swings : MethodName := ⟨RX11, "swings", "(III)I"⟩
abbrev cX11_settles : ByteArray := prog_1_method_37_code
def yX11_settles : MethodName := ⟨RX11, "settles", "(II)I"⟩
abbrev cX11_shake : ByteArray := prog_1_method_38_code
def yX11_shake : MethodName := ⟨RX11, "shake", "(III)I"⟩
abbrev cX11_worst : ByteArray := prog_1_method_39_code
def yX11_worst : MethodName := ⟨RX11, "worst", "(II)I"⟩
abbrev cX11_unsafe : ByteArray := prog_1_method_40_code
def yX11_unsafe : MethodName := ⟨RX11, "\x75nsafe", "(II)I"⟩
abbrev cX11_coil : ByteArray := prog_1_method_41_code
def yX11_coil : MethodName := ⟨RX11, "coil", "(III)I"⟩
abbrev cX11_follows : ByteArray := prog_1_method_42_code
def yX11_follows : MethodName := ⟨RX11, "follows", "(III)I"⟩
abbrev cX11_ripple : ByteArray := prog_1_method_43_code
def yX11_ripple : MethodName := ⟨RX11, "ripple", "(II)I"⟩
abbrev cX11_mode : ByteArray := prog_1_method_44_code
def yX11_mode : MethodName := ⟨RX11, "mode", "(I)I"⟩
abbrev cX11_about : ByteArray := prog_1_method_45_code
def yX11_about : MethodName := ⟨RX11, "about", "(I)I"⟩
abbrev cX11_isWithin : ByteArray := prog_1_method_46_code
def yX11_isWithin : MethodName := ⟨RX11, "isWithin", "(III)Z"⟩
abbrev cX11_isMode : ByteArray := prog_1_method_47_code
def yX11_isMode : MethodName := ⟨RX11, "isMode", "(I)Z"⟩
abbrev cX11_isLetGo : ByteArray := prog_1_method_48_code
def yX11_isLetGo : MethodName := ⟨RX11, "isLetGo", "(I)Z"⟩
abbrev cX11_isAxis : ByteArray := prog_1_method_49_code
def yX11_isAxis : MethodName := ⟨RX11, "isAxis", "(I)Z"⟩
abbrev cX11_askRamp : ByteArray := prog_1_method_50_code
def yX11_askRamp : MethodName := ⟨RX11, "askRamp", "(III)Z"⟩
abbrev cX11_askMove : ByteArray := prog_1_method_51_code
def yX11_askMove : MethodName := ⟨RX11, "askMove", "(III)Z"⟩
abbrev cX11_takeGoal : ByteArray := prog_1_method_52_code
def yX11_takeGoal : MethodName := ⟨RX11, "takeGoal", "(III)Z"⟩
abbrev cX11_shakeBy : ByteArray := prog_1_method_53_code
def yX11_shakeBy : MethodName := ⟨RX11, "shakeBy", "(III)I"⟩
abbrev cX11_offWhileFollowing : ByteArray := prog_1_method_54_code
def yX11_offWhileFollowing : MethodName := ⟨RX11, "offWhileFollowing", "(III)I"⟩
def RX12 : String := "MicroStepsModel"
def TX12 : u_T := fun k => match k with
  | 0 => ("MicroStepsModel", "now", "[I", true)
  | 1 => ("MicroStepsModel", "tape", "[I", true)
  | 2 => ("MicroStepsModel", "taped", "I", false)
  | 3 => ("MicroStepsModel", "bytes", "I", false)
  | 4 => ("MicroStepsModel", "at", "I", false)
  | 5 => ("MicroStepsModel", "place", "I", false)
  | 6 => ("MicroStepsModel", "sort", "I", false)
  | 7 => ("MicroStepsModel", "value", "I", false)
  | 8 => ("MicroStepsModel", "fault", "I", false)
  | 9 => ("MicroStepsModel", "faultPlace", "I", false)
  | 10 => ("MicroStepsModel", "toldFault", "I", false)
  | 11 => ("MicroStepsModel", "toldPlace", "I", false)
  | 12 => ("MicroStepsModel", "word", "J", false)
  | 13 => ("MicroStepsModel", "names", "[J", true)
  | 14 => ("MicroStepsModel", "axes", "[I", true)
  | 15 => ("MicroStepsModel", "readAxes", "[I", true)
  | 16 => ("MicroStepsModel", "bands", "[I", true)
  | 17 => ("MicroStepsModel", "readBands", "[I", true)
  | 18 => ("MicroStepsModel", "fixes", "[I", true)
  | 19 => ("MicroStepsModel", "readFixes", "[I", true)
  | 20 => ("MicroStepsModel", "isFixed", "[Z", true)
  | 21 => ("MicroStepsModel", "hasMotor", "[Z", true)
  | 22 => ("MicroStepsModel", "axisMany", "I", false)
  | 23 => ("MicroStepsModel", "readMany", "I", false)
  | 24 => ("MicroStepsModel", "bandMany", "I", false)
  | 25 => ("MicroStepsModel", "readBandMany", "I", false)
  | 26 => ("MicroStepsModel", "fixMany", "I", false)
  | 27 => ("MicroStepsModel", "readFixMany", "I", false)
  | 28 => ("MicroStepsModel", "supply", "I", false)
  | 29 => ("MicroStepsModel", "loss", "I", false)
  | 30 => ("MicroStepsModel", "readSupply", "I", false)
  | 31 => ("MicroStepsModel", "readLoss", "I", false)
  | 32 => ("MicroStepsModel", "hasCoil", "Z", false)
  | 33 => ("MicroStepsModel", "plain", "[I", true)
  | 34 => ("MicroStepsModel", "fixesNow", "[I", true)
  | 35 => ("MicroStepsModel", "ramp", "[I", true)
  | 36 => ("MicroStepsModel", "rampMany", "I", false)
  | 37 => ("MicroStepsModel", "goes", "[I", true)
  | 38 => ("MicroStepsModel", "lead", "I", false)
  | 39 => ("MicroStepsModel", "way", "I", false)
  | 40 => ("MicroStepsModel", "lineSpeed", "I", false)
  | 41 => ("MicroStepsModel", "lineGain", "I", false)
  | 42 => ("MicroStepsModel", "lineJerk", "I", false)
  | 43 => ("MicroStepsModel", "rest", "I", false)
  | 44 => ("MicroStepsModel", "even", "I", false)
  | 45 => ("MicroStepsModel", "past", "[I", true)
  | 46 => ("MicroStepsModel", "acts", "I", false)
  | 47 => ("MicroStepsModel", "aside", "[I", true)
  | 48 => ("MicroStepsModel", "off", "I", false)
  | 49 => ("MicroStepsModel", "over", "I", false)
  | _ => ("MicroStepsModel", "offAll", "I", false)
def tyX12 : Nat → FieldType := fun k => match k with
  | 0 => .array .int
  | 1 => .array .int
  | 2 => .int
  | 3 => .int
  | 4 => .int
  | 5 => .int
  | 6 => .int
  | 7 => .int
  | 8 => .int
  | 9 => .int
  | 10 => .int
  | 11 => .int
  | 12 => .long
  | 13 => .array .long
  | 14 => .array .int
  | 15 => .array .int
  | 16 => .array .int
  | 17 => .array .int
  | 18 => .array .int
  | 19 => .array .int
  | 20 => .array .boolean
  | 21 => .array .boolean
  | 22 => .int
  | 23 => .int
  | 24 => .int
  | 25 => .int
  | 26 => .int
  | 27 => .int
  | 28 => .int
  | 29 => .int
  | 30 => .int
  | 31 => .int
  | 32 => .boolean
  | 33 => .array .int
  | 34 => .array .int
  | 35 => .array .int
  | 36 => .int
  | 37 => .array .int
  | 38 => .int
  | 39 => .int
  | 40 => .int
  | 41 => .int
  | 42 => .int
  | 43 => .int
  | 44 => .int
  | 45 => .array .int
  | 46 => .int
  | 47 => .array .int
  | 48 => .int
  | 49 => .int
  | _ => .int
abbrev wsX120 : List Cond := u_ws RX12 TX12 51
theorem nmX12 : ∀ a, a < 51 → ∀ b, b < 51 → a ≠ b → (TX12 a).2.1 ≠ (TX12 b).2.1 := by decide +kernel
theorem tyX12_ok : ∀ k, k < 51 → parseFieldDescriptor (TX12 k).2.2.1 = some (tyX12 k) := by decide +kernel
abbrev cX12_init : ByteArray := prog_14_method_1_code
def yX12_init : MethodName := ⟨RX12, "<init>", "()V"⟩
abbrev cX12_isIn : ByteArray := prog_14_method_2_code
def yX12_isIn : MethodName := ⟨RX12, "isIn", "(JJJ)Z"⟩
abbrev cX12_truth : ByteArray := prog_14_method_3_code
def yX12_truth : MethodName := ⟨RX12, "truth", "(Z)I"⟩
abbrev cX12_size : ByteArray := prog_14_method_4_code
def yX12_size : MethodName := ⟨RX12, "size", "(I)I"⟩
abbrev cX12_greater : ByteArray := prog_14_method_5_code
def yX12_greater : MethodName := ⟨RX12, "greater", "(II)I"⟩
abbrev cX12_lesser : ByteArray := prog_14_method_6_code
def yX12_lesser : MethodName := ⟨RX12, "lesser", "(II)I"⟩
abbrev cX12_floor : ByteArray := prog_14_method_7_code
def yX12_floor : MethodName := ⟨RX12, "floor", "(II)I"⟩
abbrev cX12_feed : ByteArray := prog_14_method_8_code
def yX12_feed : MethodName := ⟨RX12, "feed", "(IIIII)I"⟩
abbrev cX12_four : ByteArray := prog_14_method_9_code
def yX12_four : MethodName := ⟨RX12, "four", "(I)V"⟩
abbrev cX12_end : ByteArray := prog_14_method_10_code
def yX12_end : MethodName := ⟨RX12, "end", "(I)I"⟩
abbrev cX12_here : ByteArray := prog_14_method_11_code
def yX12_here : MethodName := ⟨RX12, "here", "(I)I"⟩
abbrev cX12_isLetter : ByteArray := prog_14_method_12_code
def yX12_isLetter : MethodName := ⟨RX12, "isLetter", "(I)Z"⟩
abbrev cX12_isDigit : ByteArray := prog_14_method_13_code
def yX12_isDigit : MethodName := ⟨RX12, "isDigit", "(I)Z"⟩
abbrev cX12_goOn : ByteArray := prog_14_method_14_code
def yX12_goOn : MethodName := ⟨RX12, "goOn", "()V"⟩
abbrev cX12_wrong : ByteArray := prog_14_method_15_code
def yX12_wrong : MethodName := ⟨RX12, "wrong", "(I)V"⟩
abbrev cX12_isGood : ByteArray := prog_14_method_16_code
def yX12_isGood : MethodName := ⟨RX12, "isGood", "()Z"⟩
abbrev cX12_isWord : ByteArray := prog_14_method_17_code
def yX12_isWord : MethodName := ⟨RX12, "isWord", "(J)Z"⟩
abbrev cX12_isKept : ByteArray := prog_14_method_18_code
def yX12_isKept : MethodName := ⟨RX12, "isKept", "()Z"⟩
abbrev cX12_must : ByteArray := prog_14_method_19_code
def yX12_must : MethodName := ⟨RX12, "must", "(J)V"⟩
abbrev cX12_numberHere : ByteArray := prog_14_method_20_code
def yX12_numberHere : MethodName := ⟨RX12, "numberHere", "(III)I"⟩
abbrev cX12_number : ByteArray := prog_14_method_21_code
def yX12_number : MethodName := ⟨RX12, "number", "(II)I"⟩
abbrev cX12_behind : ByteArray := prog_14_method_22_code
def yX12_behind : MethodName := ⟨RX12, "behind", "(JII)I"⟩
abbrev cX12_nameAt : ByteArray := prog_14_method_23_code
def yX12_nameAt : MethodName := ⟨RX12, "nameAt", "()I"⟩
abbrev cX12_mustName : ByteArray := prog_14_method_24_code
def yX12_mustName : MethodName := ⟨RX12, "mustName", "()V"⟩
abbrev cX12_axisLine : ByteArray := prog_14_method_25_code
def yX12_axisLine : MethodName := ⟨RX12, "axisLine", "()V"⟩
abbrev cX12_axisHere : ByteArray := prog_14_method_26_code
def yX12_axisHere : MethodName := ⟨RX12, "axisHere", "()I"⟩
abbrev cX12_motorLine : ByteArray := prog_14_method_27_code
def yX12_motorLine : MethodName := ⟨RX12, "motorLine", "()V"⟩
abbrev cX12_bandLine : ByteArray := prog_14_method_28_code
def yX12_bandLine : MethodName := ⟨RX12, "bandLine", "()V"⟩
abbrev cX12_fixLine : ByteArray := prog_14_method_29_code
def yX12_fixLine : MethodName := ⟨RX12, "fixLine", "()V"⟩
abbrev cX12_coilLine : ByteArray := prog_14_method_30_code
def yX12_coilLine : MethodName := ⟨RX12, "coilLine", "()V"⟩
abbrev cX12_line : ByteArray := prog_14_method_31_code
def yX12_line : MethodName := ⟨RX12, "line", "()V"⟩
abbrev cX12_bench : ByteArray := prog_14_method_32_code
def yX12_bench : MethodName := ⟨RX12, "bench", "()I"⟩
abbrev cX12_takes : ByteArray := prog_14_method_33_code
def yX12_takes : MethodName := ⟨RX12, "takes", "()V"⟩
abbrev cX12_fault : ByteArray := prog_14_method_34_code
def yX12_fault : MethodName := ⟨RX12, "fault", "(I)I"⟩
abbrev cX12_table : ByteArray := prog_14_method_35_code
def yX12_table : MethodName := ⟨RX12, "table", "(II)I"⟩
abbrev cX12_tableAt : ByteArray := prog_14_method_36_code
def yX12_tableAt : MethodName := ⟨RX12, "tableAt", "(IZ)I"⟩
abbrev cX12_sine : ByteArray := prog_14_method_37_code
def yX12_sine : MethodName := ⟨RX12, "sine", "(IZ)I"⟩
abbrev cX12_currentOf : ByteArray := prog_14_method_38_code
def yX12_currentOf : MethodName := ⟨RX12, "currentOf", "(II)I"⟩
abbrev cX12_current : ByteArray := prog_14_method_39_code
def yX12_current : MethodName := ⟨RX12, "current", "(II)I"⟩
abbrev cX12_rootAt : ByteArray := prog_14_method_40_code
def yX12_rootAt : MethodName := ⟨RX12, "rootAt", "(I)I"⟩
abbrev cX12_field : ByteArray := prog_14_method_41_code
def yX12_field : MethodName := ⟨RX12, "field", "(I)I"⟩
abbrev cX12_mend : ByteArray := prog_14_method_42_code
def yX12_mend : MethodName := ⟨RX12, "mend", "(I)I"⟩
abbrev cX12_tuned : ByteArray := prog_14_method_43_code
def yX12_tuned : MethodName := ⟨RX12, "tuned", "(I)I"⟩
abbrev cX12_till : ByteArray := prog_14_method_44_code
def yX12_till : MethodName := ⟨RX12, "till", "(II)I"⟩
abbrev cX12_laysRamp : ByteArray := prog_14_method_45_code
def yX12_laysRamp : MethodName := ⟨RX12, "laysRamp", "(III)V"⟩
abbrev cX12_reached : ByteArray := prog_14_method_46_code
def yX12_reached : MethodName := ⟨RX12, "reached", "()I"⟩
abbrev cX12_rampSum : ByteArray := prog_14_method_47_code
def yX12_rampSum : MethodName := ⟨RX12, "rampSum", "()I"⟩
abbrev cX12_isRamp : ByteArray := prog_14_method_48_code
def yX12_isRamp : MethodName := ⟨RX12, "isRamp", "(III)Z"⟩
abbrev cX12_ramp : ByteArray := prog_14_method_49_code
def yX12_ramp : MethodName := ⟨RX12, "ramp", "(IIII)I"⟩
abbrev cX12_rampAt : ByteArray := prog_14_method_50_code
def yX12_rampAt : MethodName := ⟨RX12, "rampAt", "(IIII)I"⟩
abbrev cX12_bandsAt : ByteArray := prog_14_method_51_code
def yX12_bandsAt : MethodName := ⟨RX12, "bandsAt", "(II)I"⟩
abbrev cX12_bands : ByteArray := prog_14_method_52_code
def yX12_bands : MethodName := ⟨RX12, "bands", "(II)I"⟩
abbrev cX12_laysTop : ByteArray := prog_14_method_53_code
def yX12_laysTop : MethodName := ⟨RX12, "laysTop", "(IIIII)V"⟩
abbrev cX12_evenTicks : ByteArray := prog_14_method_54_code
def yX12_evenTicks : MethodName := ⟨RX12, "evenTicks", "(I)I"⟩
abbrev cX12_isAxis : ByteArray := prog_14_method_55_code
def yX12_isAxis : MethodName := ⟨RX12, "isAxis", "(I)Z"⟩
abbrev cX12_axisAt : ByteArray := prog_14_method_56_code
def yX12_axisAt : MethodName := ⟨RX12, "axisAt", "(II)I"⟩
abbrev cX12_setsAxis : ByteArray := prog_14_method_57_code
def yX12_setsAxis : MethodName := ⟨RX12, "setsAxis", "(III)V"⟩
abbrev cX12_one : ByteArray := prog_14_method_58_code
def yX12_one : MethodName := ⟨RX12, "one", "(IIII)I"⟩
abbrev cX12_areRight : ByteArray := prog_14_method_59_code
def yX12_areRight : MethodName := ⟨RX12, "areRight", "(III)Z"⟩
abbrev cX12_least : ByteArray := prog_14_method_60_code
def yX12_least : MethodName := ⟨RX12, "least", "(I)I"⟩
abbrev cX12_plans : ByteArray := prog_14_method_61_code
def yX12_plans : MethodName := ⟨RX12, "plans", "(III)Z"⟩
abbrev cX12_canGo : ByteArray := prog_14_method_62_code
def yX12_canGo : MethodName := ⟨RX12, "canGo", "(III)Z"⟩
abbrev cX12_planTicks : ByteArray := prog_14_method_63_code
def yX12_planTicks : MethodName := ⟨RX12, "planTicks", "()I"⟩
abbrev cX12_part : ByteArray := prog_14_method_64_code
def yX12_part : MethodName := ⟨RX12, "part", "(III)I"⟩
abbrev cX12_speedOf : ByteArray := prog_14_method_65_code
def yX12_speedOf : MethodName := ⟨RX12, "speedOf", "(I)I"⟩
abbrev cX12_goneBy : ByteArray := prog_14_method_66_code
def yX12_goneBy : MethodName := ⟨RX12, "goneBy", "(III)I"⟩
abbrev cX12_path : ByteArray := prog_14_method_67_code
def yX12_path : MethodName := ⟨RX12, "path", "(IIII)I"⟩
abbrev cX12_bandTicks : ByteArray := prog_14_method_68_code
def yX12_bandTicks : MethodName := ⟨RX12, "bandTicks", "()I"⟩
abbrev cX12_pathAt : ByteArray := prog_14_method_69_code
def yX12_pathAt : MethodName := ⟨RX12, "pathAt", "(IIIII)I"⟩
abbrev cX12_due : ByteArray := prog_14_method_70_code
def yX12_due : MethodName := ⟨RX12, "due", "(I)I"⟩
abbrev cX12_stamp : ByteArray := prog_14_method_71_code
def yX12_stamp : MethodName := ⟨RX12, "stamp", "(IIIII)I"⟩
abbrev cX12_peak : ByteArray := prog_14_method_72_code
def yX12_peak : MethodName := ⟨RX12, "peak", "(IIII)I"⟩
abbrev cX12_needed : ByteArray := prog_14_method_73_code
def yX12_needed : MethodName := ⟨RX12, "needed", "(III)I"⟩
abbrev cX12_quickest : ByteArray := prog_14_method_74_code
def yX12_quickest : MethodName := ⟨RX12, "quickest", "(III)I"⟩
abbrev cX12_most : ByteArray := prog_14_method_75_code
def yX12_most : MethodName := ⟨RX12, "most", "(IIII)I"⟩
abbrev cX12_drives : ByteArray := prog_14_method_76_code
def yX12_drives : MethodName := ⟨RX12, "drives", "(IIIIII)I"⟩
abbrev cX12_act : ByteArray := prog_14_method_77_code
def yX12_act : MethodName := ⟨RX12, "act", "()V"⟩
abbrev cX12_undo : ByteArray := prog_14_method_78_code
def yX12_undo : MethodName := ⟨RX12, "undo", "()I"⟩
abbrev cX12_begins : ByteArray := prog_14_method_79_code
def yX12_begins : MethodName := ⟨RX12, "begins", "()V"⟩
abbrev cX12_go : ByteArray := prog_14_method_80_code
def yX12_go : MethodName := ⟨RX12, "go", "(III)I"⟩
abbrev cX12_allTicks : ByteArray := prog_14_method_81_code
def yX12_allTicks : MethodName := ⟨RX12, "allTicks", "()I"⟩
abbrev cX12_speedNow : ByteArray := prog_14_method_82_code
def yX12_speedNow : MethodName := ⟨RX12, "speedNow", "()I"⟩
abbrev cX12_left : ByteArray := prog_14_method_83_code
def yX12_left : MethodName := ⟨RX12, "left", "()I"⟩
abbrev cX12_halt : ByteArray := prog_14_method_84_code
def yX12_halt : MethodName := ⟨RX12, "halt", "()I"⟩
abbrev cX12_queue : ByteArray := prog_14_method_85_code
def yX12_queue : MethodName := ⟨RX12, "queue", "(III)I"⟩
abbrev cX12_watch : ByteArray := prog_14_method_86_code
def yX12_watch : MethodName := ⟨RX12, "watch", "(II)I"⟩
abbrev cX12_load : ByteArray := prog_14_method_87_code
def yX12_load : MethodName := ⟨RX12, "load", "(II)I"⟩
abbrev cX12_trueUp : ByteArray := prog_14_method_88_code
def yX12_trueUp : MethodName := ⟨RX12, "trueUp", "()I"⟩
abbrev cX12_angleBy : ByteArray := prog_14_method_89_code
def yX12_angleBy : MethodName := ⟨RX12, "angleBy", "(II)I"⟩
abbrev cX12_angle : ByteArray := prog_14_method_90_code
def yX12_angle : MethodName := ⟨RX12, "angle", "(I)I"⟩
abbrev cX12_pushed : ByteArray := prog_14_method_91_code
def yX12_pushed : MethodName := ⟨RX12, "pushed", "(III)I"⟩
abbrev cX12_swung : ByteArray := prog_14_method_92_code
def yX12_swung : MethodName := ⟨RX12, "swung", "(IIII)I"⟩
abbrev cX12_waitingBegins : ByteArray := prog_14_method_93_code
def yX12_waitingBegins : MethodName := ⟨RX12, "waitingBegins", "()V"⟩
abbrev cX12_moves : ByteArray := prog_14_method_94_code
def yX12_moves : MethodName := ⟨RX12, "moves", "()V"⟩
abbrev cX12_trips : ByteArray := prog_14_method_95_code
def yX12_trips : MethodName := ⟨RX12, "trips", "()V"⟩
abbrev cX12_tick : ByteArray := prog_14_method_96_code
def yX12_tick : MethodName := ⟨RX12, "tick", "()V"⟩
abbrev cX12_run : ByteArray := prog_14_method_97_code
def yX12_run : MethodName := ⟨RX12, "run", "(I)I"⟩
abbrev cX12_axis : ByteArray := prog_14_method_98_code
def yX12_axis : MethodName := ⟨RX12, "axis", "(II)I"⟩
abbrev cX12_now : ByteArray := prog_14_method_99_code
def yX12_now : MethodName := ⟨RX12, "now", "(II)I"⟩
abbrev cX12_puts : ByteArray := prog_14_method_100_code
def yX12_puts : MethodName := ⟨RX12, "puts", "()V"⟩
abbrev cX12_takesBack : ByteArray := prog_14_method_101_code
def yX12_takesBack : MethodName := ⟨RX12, "takesBack", "()V"⟩
abbrev cX12_stallIn : ByteArray := prog_14_method_102_code
def yX12_stallIn : MethodName := ⟨RX12, "stallIn", "(I)I"⟩
abbrev cX12_isSteady : ByteArray := prog_14_method_103_code
def yX12_isSteady : MethodName := ⟨RX12, "isSteady", "()Z"⟩
abbrev cX12_calmIn : ByteArray := prog_14_method_104_code
def yX12_calmIn : MethodName := ⟨RX12, "calmIn", "()I"⟩
abbrev cX12_bears : ByteArray := prog_14_method_105_code
def yX12_bears : MethodName := ⟨RX12, "bears", "(III)Z"⟩
abbrev cX12_carries : ByteArray := prog_14_method_106_code
def yX12_carries : MethodName := ⟨RX12, "carries", "(II)I"⟩
abbrev cX12_strain : ByteArray := prog_14_method_107_code
def yX12_strain : MethodName := ⟨RX12, "strain", "(II)I"⟩
abbrev cX12_shakeOf : ByteArray := prog_14_method_108_code
def yX12_shakeOf : MethodName := ⟨RX12, "shakeOf", "(III)I"⟩
abbrev cX12_shake : ByteArray := prog_14_method_109_code
def yX12_shake : MethodName := ⟨RX12, "shake", "(III)I"⟩
abbrev cX12_worst : ByteArray := prog_14_method_110_code
def yX12_worst : MethodName := ⟨RX12, "worst", "(II)I"⟩
abbrev cX12_unsafe : ByteArray := prog_14_method_111_code
def yX12_unsafe : MethodName := ⟨RX12, "\x75nsafe", "(II)I"⟩
abbrev cX12_sign : ByteArray := prog_14_method_112_code
def yX12_sign : MethodName := ⟨RX12, "sign", "(I)I"⟩
abbrev cX12_isLet : ByteArray := prog_14_method_113_code
def yX12_isLet : MethodName := ⟨RX12, "isLet", "(I)Z"⟩
abbrev cX12_swings : ByteArray := prog_14_method_114_code
def yX12_swings : MethodName := ⟨RX12, "swings", "(III)I"⟩
abbrev cX12_settles : ByteArray := prog_14_method_115_code
def yX12_settles : MethodName := ⟨RX12, "settles", "(II)I"⟩
abbrev cX12_pulls : ByteArray := prog_14_method_116_code
def yX12_pulls : MethodName := ⟨RX12, "pulls", "(IIII)I"⟩
abbrev cX12_coil : ByteArray := prog_14_method_117_code
def yX12_coil : MethodName := ⟨RX12, "coil", "(III)I"⟩
abbrev cX12_laysFollow : ByteArray := prog_14_method_118_code
def yX12_laysFollow : MethodName := ⟨RX12, "laysFollow", "(II)V"⟩
abbrev cX12_follows : ByteArray := prog_14_method_119_code
def yX12_follows : MethodName := ⟨RX12, "follows", "(III)I"⟩
abbrev cX12_mode : ByteArray := prog_14_method_120_code
def yX12_mode : MethodName := ⟨RX12, "mode", "(I)I"⟩
abbrev cX12_ripple : ByteArray := prog_14_method_121_code
def yX12_ripple : MethodName := ⟨RX12, "ripple", "(II)I"⟩
abbrev cX12_about : ByteArray := prog_14_method_122_code
def yX12_about : MethodName := ⟨RX12, "about", "(I)I"⟩
def RJ6 : String := "java/lang/Integer"
def TJ6 : u_T := fun k => match k with
  | _ => ("", "", "", false)
def tyJ6 : Nat → FieldType := fun k => match k with
  | _ => .int
abbrev wsJ60 : List Cond := u_ws RJ6 TJ6 0
theorem nmJ6 : ∀ a, a < 0 → ∀ b, b < 0 → a ≠ b → (TJ6 a).2.1 ≠ (TJ6 b).2.1 := by decide +kernel
theorem tyJ6_ok : ∀ k, k < 0 → parseFieldDescriptor (TJ6 k).2.2.1 = some (tyJ6 k) := by decide +kernel
abbrev cJ6_signum_0f7a4 : ByteArray := prog_15_method_56_code
def yJ6_signum_0f7a4 : MethodName := ⟨RJ6, "signum", "(I)I"⟩
def RJ9 : String := "java/lang/Math"
def TJ9 : u_T := fun k => match k with
  | _ => ("", "", "", false)
def tyJ9 : Nat → FieldType := fun k => match k with
  | _ => .int
abbrev wsJ90 : List Cond := u_ws RJ9 TJ9 0
theorem nmJ9 : ∀ a, a < 0 → ∀ b, b < 0 → a ≠ b → (TJ9 a).2.1 ≠ (TJ9 b).2.1 := by decide +kernel
theorem tyJ9_ok : ∀ k, k < 0 → parseFieldDescriptor (TJ9 k).2.2.1 = some (tyJ9 k) := by decide +kernel
abbrev cJ9_floorDiv_7cf53 : ByteArray := prog_16_method_47_code
def yJ9_floorDiv_7cf53 : MethodName := ⟨RJ9, "floorDiv", "(II)I"⟩
abbrev cJ9_abs_0f7a4 : ByteArray := prog_16_method_59_code
def yJ9_abs_0f7a4 : MethodName := ⟨RJ9, "abs", "(I)I"⟩
abbrev cJ9_max_7cf53 : ByteArray := prog_16_method_65_code
def yJ9_max_7cf53 : MethodName := ⟨RJ9, "max", "(II)I"⟩
abbrev cJ9_min_7cf53 : ByteArray := prog_16_method_69_code
def yJ9_min_7cf53 : MethodName := ⟨RJ9, "min", "(II)I"⟩
def RJ0 : String := "java/lang/String"
def TJ0 : u_T := fun k => match k with
  | _ => ("", "", "", false)
def tyJ0 : Nat → FieldType := fun k => match k with
  | _ => .int
abbrev wsJ00 : List Cond := u_ws RJ0 TJ0 0
theorem nmJ0 : ∀ a, a < 0 → ∀ b, b < 0 → a ≠ b → (TJ0 a).2.1 ≠ (TJ0 b).2.1 := by decide +kernel
theorem tyJ0_ok : ∀ k, k < 0 → parseFieldDescriptor (TJ0 k).2.2.1 = some (tyJ0 k) := by decide +kernel
abbrev cJ0_length_8abf5 : ByteArray := prog_17_method_54_code
def yJ0_length_8abf5 : MethodName := ⟨RJ0, "length", "()I"⟩
abbrev cJ0_charAt_5068e : ByteArray := prog_17_method_56_code
def yJ0_charAt_5068e : MethodName := ⟨RJ0, "charAt", "(I)C"⟩
abbrev cJ0_coder_7d493 : ByteArray := prog_17_method_152_code
def yJ0_coder_7d493 : MethodName := ⟨RJ0, "coder", "()B"⟩
abbrev cJ0_isLatin1_aae02 : ByteArray := prog_17_method_154_code
def yJ0_isLatin1_aae02 : MethodName := ⟨RJ0, "isLatin1", "()Z"⟩
abbrev cJ0_checkIndex_df160 : ByteArray := prog_17_method_155_code
def yJ0_checkIndex_df160 : MethodName := ⟨RJ0, "checkIndex", "(II)V"⟩
def RJ1 : String := "java/lang/StringLatin1"
def TJ1 : u_T := fun k => match k with
  | _ => ("", "", "", false)
def tyJ1 : Nat → FieldType := fun k => match k with
  | _ => .int
abbrev wsJ10 : List Cond := u_ws RJ1 TJ1 0
theorem nmJ1 : ∀ a, a < 0 → ∀ b, b < 0 → a ≠ b → (TJ1 a).2.1 ≠ (TJ1 b).2.1 := by decide +kernel
theorem tyJ1_ok : ∀ k, k < 0 → parseFieldDescriptor (TJ1 k).2.2.1 = some (tyJ1 k) := by decide +kernel
abbrev cJ1_charAt_3b067 : ByteArray := prog_18_method_2_code
def yJ1_charAt_3b067 : MethodName := ⟨RJ1, "charAt", "([BI)C"⟩
def RJ2 : String := "java/lang/StringUTF16"
def TJ2 : u_T := fun k => match k with
  | _ => ("", "", "", false)
def tyJ2 : Nat → FieldType := fun k => match k with
  | _ => .int
abbrev wsJ20 : List Cond := u_ws RJ2 TJ2 0
theorem nmJ2 : ∀ a, a < 0 → ∀ b, b < 0 → a ≠ b → (TJ2 a).2.1 ≠ (TJ2 b).2.1 := by decide +kernel
theorem tyJ2_ok : ∀ k, k < 0 → parseFieldDescriptor (TJ2 k).2.2.1 = some (tyJ2 k) := by decide +kernel
abbrev cJ2_getChar_3b067 : ByteArray := prog_19_method_5_code
def yJ2_getChar_3b067 : MethodName := ⟨RJ2, "getChar", "([BI)C"⟩
abbrev cJ2_length_9d52b : ByteArray := prog_19_method_6_code
def yJ2_length_9d52b : MethodName := ⟨RJ2, "length", "([B)I"⟩
abbrev cJ2_charAt_3b067 : ByteArray := prog_19_method_83_code
def yJ2_charAt_3b067 : MethodName := ⟨RJ2, "charAt", "([BI)C"⟩
abbrev cJ2_checkIndex_2214a : ByteArray := prog_19_method_91_code
def yJ2_checkIndex_2214a : MethodName := ⟨RJ2, "checkIndex", "(I[B)V"⟩
def RJ10 : String := "java/lang/System"
def TJ10 : u_T := fun k => match k with
  | _ => ("", "", "", false)
def tyJ10 : Nat → FieldType := fun k => match k with
  | _ => .int
abbrev wsJ100 : List Cond := u_ws RJ10 TJ10 0
theorem nmJ10 : ∀ a, a < 0 → ∀ b, b < 0 → a ≠ b → (TJ10 a).2.1 ≠ (TJ10 b).2.1 := by decide +kernel
theorem tyJ10_ok : ∀ k, k < 0 → parseFieldDescriptor (TJ10 k).2.2.1 = some (tyJ10 k) := by decide +kernel
def RJ3 : String := "jdk/internal/util/Preconditions"
def TJ3 : u_T := fun k => match k with
  | _ => ("", "", "", false)
def tyJ3 : Nat → FieldType := fun k => match k with
  | _ => .int
abbrev wsJ30 : List Cond := u_ws RJ3 TJ3 0
theorem nmJ3 : ∀ a, a < 0 → ∀ b, b < 0 → a ≠ b → (TJ3 a).2.1 ≠ (TJ3 b).2.1 := by decide +kernel
theorem tyJ3_ok : ∀ k, k < 0 → parseFieldDescriptor (TJ3 k).2.2.1 = some (tyJ3 k) := by decide +kernel
abbrev cJ3_checkIndex_8e157 : ByteArray := prog_21_method_11_code
def yJ3_checkIndex_8e157 : MethodName := ⟨RJ3, "checkIndex", "(IILjava/util/function/BiFunction;)I"⟩
def RL : String := "MicroStepsLaw"
abbrev cL_law : ByteArray := code
abbrev vwCl : List vw_C := [(RX0, TX0, 8), (RX1, TX1, 12), (RX2, TX2, 5), (RX3, TX3, 3), (RX4, TX4, 10), (RX5, TX5, 2), (RX6, TX6, 9), (RX7, TX7, 6), (RX8, TX8, 13), (RX9, TX9, 2), (RX10, TX10, 2), (RX11, TX11, 13), (RX12, TX12, 51)]
