section
-- ===== PART A: goes FIRST, ahead of the names: the tables' words, and 'selects' of the private methods out of them =====
/-- a private method of a class that the tables say can be made, by its rows of tables_1 -/
def lw_okq (q : MethodName × Nat) : Prop := (q.1.cls ≠ "java/lang/invoke/MethodHandle" ∧ q.1.cls ≠ "java/lang/invoke/VarHandle") ∧ Cond.instantiable q.1.cls q.2 ∈ tables_1 ∧ Cond.privateMethod q.1 ∈ tables_1 ∧ Cond.instanceMethod q.1 ∈ tables_1
theorem lw_p0 : lw_okq (⟨"BluesAndGreens", "readRule", "(LBluesAndGreens$Rule;)I"⟩, 16) := ⟨⟨by decide +kernel, by decide +kernel⟩, List.mem_of_getElem? (i := 26) (by decide +kernel), List.mem_of_getElem? (i := 288) (by decide +kernel), List.mem_of_getElem? (i := 289) (by decide +kernel)⟩
theorem lw_p1 : lw_okq (⟨"BluesAndGreens$Text", "append", "(C)V"⟩, 2) := ⟨⟨by decide +kernel, by decide +kernel⟩, List.mem_of_getElem? (i := 34) (by decide +kernel), List.mem_of_getElem? (i := 336) (by decide +kernel), List.mem_of_getElem? (i := 337) (by decide +kernel)⟩
theorem lw_p2 : lw_okq (⟨"BluesAndGreens$RuleReader", "startThing", "(LBluesAndGreens$Rule;)Z"⟩, 5) := ⟨⟨by decide +kernel, by decide +kernel⟩, List.mem_of_getElem? (i := 71) (by decide +kernel), List.mem_of_getElem? (i := 356) (by decide +kernel), List.mem_of_getElem? (i := 357) (by decide +kernel)⟩
theorem lw_p3 : lw_okq (⟨"BluesAndGreens$RuleReader", "hold", "(I)V"⟩, 5) := ⟨⟨by decide +kernel, by decide +kernel⟩, List.mem_of_getElem? (i := 71) (by decide +kernel), List.mem_of_getElem? (i := 420) (by decide +kernel), List.mem_of_getElem? (i := 421) (by decide +kernel)⟩
theorem lw_p4 : lw_okq (⟨"BluesAndGreens$RuleReader", "goOn", "(LBluesAndGreens$Rule;)Z"⟩, 5) := ⟨⟨by decide +kernel, by decide +kernel⟩, List.mem_of_getElem? (i := 71) (by decide +kernel), List.mem_of_getElem? (i := 446) (by decide +kernel), List.mem_of_getElem? (i := 447) (by decide +kernel)⟩
theorem lw_p5 : lw_okq (⟨"BluesAndGreens$RuleReader", "settle", "(LBluesAndGreens$Rule;I)V"⟩, 5) := ⟨⟨by decide +kernel, by decide +kernel⟩, List.mem_of_getElem? (i := 71) (by decide +kernel), List.mem_of_getElem? (i := 453) (by decide +kernel), List.mem_of_getElem? (i := 454) (by decide +kernel)⟩
theorem lw_p6 : lw_okq (⟨"BluesAndGreens$Reader", "oneLine", "(CLBluesAndGreens$City;I)V"⟩, 4) := ⟨⟨by decide +kernel, by decide +kernel⟩, List.mem_of_getElem? (i := 51) (by decide +kernel), List.mem_of_getElem? (i := 537) (by decide +kernel), List.mem_of_getElem? (i := 538) (by decide +kernel)⟩
theorem lw_p7 : lw_okq (⟨"BluesAndGreens$Reader", "clubLetter", "()I"⟩, 4) := ⟨⟨by decide +kernel, by decide +kernel⟩, List.mem_of_getElem? (i := 51) (by decide +kernel), List.mem_of_getElem? (i := 542) (by decide +kernel), List.mem_of_getElem? (i := 543) (by decide +kernel)⟩
theorem lw_p8 : lw_okq (⟨"BluesAndGreens$Reader", "crowdNumber", "()I"⟩, 4) := ⟨⟨by decide +kernel, by decide +kernel⟩, List.mem_of_getElem? (i := 51) (by decide +kernel), List.mem_of_getElem? (i := 546) (by decide +kernel), List.mem_of_getElem? (i := 547) (by decide +kernel)⟩
theorem lw_p9 : lw_okq (⟨"BluesAndGreens$Reader", "gateLetters", "()I"⟩, 4) := ⟨⟨by decide +kernel, by decide +kernel⟩, List.mem_of_getElem? (i := 51) (by decide +kernel), List.mem_of_getElem? (i := 550) (by decide +kernel), List.mem_of_getElem? (i := 551) (by decide +kernel)⟩
theorem lw_p10 : lw_okq (⟨"BluesAndGreens", "forgetStates", "()V"⟩, 16) := ⟨⟨by decide +kernel, by decide +kernel⟩, List.mem_of_getElem? (i := 26) (by decide +kernel), List.mem_of_getElem? (i := 559) (by decide +kernel), List.mem_of_getElem? (i := 560) (by decide +kernel)⟩
theorem lw_p11 : lw_okq (⟨"BluesAndGreens$State", "addMoney", "(II)V"⟩, 1) := ⟨⟨by decide +kernel, by decide +kernel⟩, List.mem_of_getElem? (i := 185) (by decide +kernel), List.mem_of_getElem? (i := 655) (by decide +kernel), List.mem_of_getElem? (i := 656) (by decide +kernel)⟩
theorem lw_p12 : lw_okq (⟨"BluesAndGreens$State", "addAnger", "(II)V"⟩, 1) := ⟨⟨by decide +kernel, by decide +kernel⟩, List.mem_of_getElem? (i := 185) (by decide +kernel), List.mem_of_getElem? (i := 660) (by decide +kernel), List.mem_of_getElem? (i := 661) (by decide +kernel)⟩
theorem lw_p13 : lw_okq (⟨"BluesAndGreens", "remembered", "(I)I"⟩, 16) := ⟨⟨by decide +kernel, by decide +kernel⟩, List.mem_of_getElem? (i := 26) (by decide +kernel), List.mem_of_getElem? (i := 713) (by decide +kernel), List.mem_of_getElem? (i := 714) (by decide +kernel)⟩
theorem lw_p14 : lw_okq (⟨"BluesAndGreens", "doAct", "(I)I"⟩, 16) := ⟨⟨by decide +kernel, by decide +kernel⟩, List.mem_of_getElem? (i := 26) (by decide +kernel), List.mem_of_getElem? (i := 774) (by decide +kernel), List.mem_of_getElem? (i := 775) (by decide +kernel)⟩
theorem lw_p15 : lw_okq (⟨"BluesAndGreens", "wins", "(LBluesAndGreens$State;I)Z"⟩, 16) := ⟨⟨by decide +kernel, by decide +kernel⟩, List.mem_of_getElem? (i := 26) (by decide +kernel), List.mem_of_getElem? (i := 818) (by decide +kernel), List.mem_of_getElem? (i := 819) (by decide +kernel)⟩
def lw_privs_1 : List (MethodName × Nat) := [(⟨"BluesAndGreens", "readRule", "(LBluesAndGreens$Rule;)I"⟩, 16), (⟨"BluesAndGreens$Text", "append", "(C)V"⟩, 2), (⟨"BluesAndGreens$RuleReader", "startThing", "(LBluesAndGreens$Rule;)Z"⟩, 5), (⟨"BluesAndGreens$RuleReader", "hold", "(I)V"⟩, 5), (⟨"BluesAndGreens$RuleReader", "goOn", "(LBluesAndGreens$Rule;)Z"⟩, 5), (⟨"BluesAndGreens$RuleReader", "settle", "(LBluesAndGreens$Rule;I)V"⟩, 5), (⟨"BluesAndGreens$Reader", "oneLine", "(CLBluesAndGreens$City;I)V"⟩, 4), (⟨"BluesAndGreens$Reader", "clubLetter", "()I"⟩, 4), (⟨"BluesAndGreens$Reader", "crowdNumber", "()I"⟩, 4), (⟨"BluesAndGreens$Reader", "gateLetters", "()I"⟩, 4), (⟨"BluesAndGreens", "forgetStates", "()V"⟩, 16), (⟨"BluesAndGreens$State", "addMoney", "(II)V"⟩, 1), (⟨"BluesAndGreens$State", "addAnger", "(II)V"⟩, 1), (⟨"BluesAndGreens", "remembered", "(I)I"⟩, 16), (⟨"BluesAndGreens", "doAct", "(I)I"⟩, 16), (⟨"BluesAndGreens", "wins", "(LBluesAndGreens$State;I)Z"⟩, 16)]
theorem lw_r1 : ∀ q ∈ lw_privs_1, lw_okq q := List.forall_mem_cons.mpr ⟨lw_p0, List.forall_mem_cons.mpr ⟨lw_p1, List.forall_mem_cons.mpr ⟨lw_p2, List.forall_mem_cons.mpr ⟨lw_p3, List.forall_mem_cons.mpr ⟨lw_p4, List.forall_mem_cons.mpr ⟨lw_p5, List.forall_mem_cons.mpr ⟨lw_p6, List.forall_mem_cons.mpr ⟨lw_p7, List.forall_mem_cons.mpr ⟨lw_p8, List.forall_mem_cons.mpr ⟨lw_p9, List.forall_mem_cons.mpr ⟨lw_p10, List.forall_mem_cons.mpr ⟨lw_p11, List.forall_mem_cons.mpr ⟨lw_p12, List.forall_mem_cons.mpr ⟨lw_p13, List.forall_mem_cons.mpr ⟨lw_p14, List.forall_mem_cons.mpr ⟨lw_p15, fun _ h => absurd h List.not_mem_nil⟩⟩⟩⟩⟩⟩⟩⟩⟩⟩⟩⟩⟩⟩⟩⟩
theorem lw_p16 : lw_okq (⟨"BluesAndGreens", "hexAll", "(II)Z"⟩, 16) := ⟨⟨by decide +kernel, by decide +kernel⟩, List.mem_of_getElem? (i := 26) (by decide +kernel), List.mem_of_getElem? (i := 835) (by decide +kernel), List.mem_of_getElem? (i := 836) (by decide +kernel)⟩
theorem lw_p17 : lw_okq (⟨"BluesAndGreens", "joinBySides", "(I)Z"⟩, 16) := ⟨⟨by decide +kernel, by decide +kernel⟩, List.mem_of_getElem? (i := 26) (by decide +kernel), List.mem_of_getElem? (i := 869) (by decide +kernel), List.mem_of_getElem? (i := 870) (by decide +kernel)⟩
theorem lw_p18 : lw_okq (⟨"BluesAndGreens", "addedBy", "(II)I"⟩, 16) := ⟨⟨by decide +kernel, by decide +kernel⟩, List.mem_of_getElem? (i := 26) (by decide +kernel), List.mem_of_getElem? (i := 890) (by decide +kernel), List.mem_of_getElem? (i := 891) (by decide +kernel)⟩
theorem lw_p19 : lw_okq (⟨"BluesAndGreens$City", "drawnIn", "(I)I"⟩, 12) := ⟨⟨by decide +kernel, by decide +kernel⟩, List.mem_of_getElem? (i := 110) (by decide +kernel), List.mem_of_getElem? (i := 914) (by decide +kernel), List.mem_of_getElem? (i := 915) (by decide +kernel)⟩
theorem lw_p20 : lw_okq (⟨"BluesAndGreens", "tellFraction", "(JJ)V"⟩, 16) := ⟨⟨by decide +kernel, by decide +kernel⟩, List.mem_of_getElem? (i := 26) (by decide +kernel), List.mem_of_getElem? (i := 953) (by decide +kernel), List.mem_of_getElem? (i := 954) (by decide +kernel)⟩
theorem lw_p21 : lw_okq (⟨"BluesAndGreens$Heard", "fitsAll", "(LBluesAndGreens$City;I)Z"⟩, 3) := ⟨⟨by decide +kernel, by decide +kernel⟩, List.mem_of_getElem? (i := 271) (by decide +kernel), List.mem_of_getElem? (i := 991) (by decide +kernel), List.mem_of_getElem? (i := 992) (by decide +kernel)⟩
theorem lw_p22 : lw_okq (⟨"BluesAndGreens", "drawnYear", "()I"⟩, 16) := ⟨⟨by decide +kernel, by decide +kernel⟩, List.mem_of_getElem? (i := 26) (by decide +kernel), List.mem_of_getElem? (i := 1028) (by decide +kernel), List.mem_of_getElem? (i := 1029) (by decide +kernel)⟩
theorem lw_p23 : lw_okq (⟨"java/lang/Throwable", "fillInStackTrace", "(I)Ljava/lang/Throwable;"⟩, 6) := ⟨⟨by decide +kernel, by decide +kernel⟩, List.mem_of_getElem? (i := 1099) (by decide +kernel), List.mem_of_getElem? (i := 1097) (by decide +kernel), List.mem_of_getElem? (i := 1098) (by decide +kernel)⟩
theorem lw_p24 : lw_okq (⟨"BluesAndGreensModel", "beginText", "(I)V"⟩, 41) := ⟨⟨by decide +kernel, by decide +kernel⟩, List.mem_of_getElem? (i := 1172) (by decide +kernel), List.mem_of_getElem? (i := 1321) (by decide +kernel), List.mem_of_getElem? (i := 1322) (by decide +kernel)⟩
theorem lw_p25 : lw_okq (⟨"BluesAndGreensModel", "begin", "([BII)V"⟩, 41) := ⟨⟨by decide +kernel, by decide +kernel⟩, List.mem_of_getElem? (i := 1172) (by decide +kernel), List.mem_of_getElem? (i := 1325) (by decide +kernel), List.mem_of_getElem? (i := 1326) (by decide +kernel)⟩
theorem lw_p26 : lw_okq (⟨"BluesAndGreensModel", "fine", "()Z"⟩, 41) := ⟨⟨by decide +kernel, by decide +kernel⟩, List.mem_of_getElem? (i := 1172) (by decide +kernel), List.mem_of_getElem? (i := 1329) (by decide +kernel), List.mem_of_getElem? (i := 1330) (by decide +kernel)⟩
theorem lw_p27 : lw_okq (⟨"BluesAndGreensModel", "fault", "(I)V"⟩, 41) := ⟨⟨by decide +kernel, by decide +kernel⟩, List.mem_of_getElem? (i := 1172) (by decide +kernel), List.mem_of_getElem? (i := 1333) (by decide +kernel), List.mem_of_getElem? (i := 1334) (by decide +kernel)⟩
theorem lw_p28 : lw_okq (⟨"BluesAndGreensModel", "oneOf", "(CI)I"⟩, 41) := ⟨⟨by decide +kernel, by decide +kernel⟩, List.mem_of_getElem? (i := 1172) (by decide +kernel), List.mem_of_getElem? (i := 1337) (by decide +kernel), List.mem_of_getElem? (i := 1338) (by decide +kernel)⟩
theorem lw_p29 : lw_okq (⟨"BluesAndGreensModel", "here", "()I"⟩, 41) := ⟨⟨by decide +kernel, by decide +kernel⟩, List.mem_of_getElem? (i := 1172) (by decide +kernel), List.mem_of_getElem? (i := 1341) (by decide +kernel), List.mem_of_getElem? (i := 1342) (by decide +kernel)⟩
theorem lw_p30 : lw_okq (⟨"BluesAndGreensModel", "number", "(I)I"⟩, 41) := ⟨⟨by decide +kernel, by decide +kernel⟩, List.mem_of_getElem? (i := 1172) (by decide +kernel), List.mem_of_getElem? (i := 1345) (by decide +kernel), List.mem_of_getElem? (i := 1346) (by decide +kernel)⟩
theorem lw_p31 : lw_okq (⟨"BluesAndGreensModel", "readClub", "()I"⟩, 41) := ⟨⟨by decide +kernel, by decide +kernel⟩, List.mem_of_getElem? (i := 1172) (by decide +kernel), List.mem_of_getElem? (i := 1349) (by decide +kernel), List.mem_of_getElem? (i := 1350) (by decide +kernel)⟩
def lw_privs_2 : List (MethodName × Nat) := [(⟨"BluesAndGreens", "hexAll", "(II)Z"⟩, 16), (⟨"BluesAndGreens", "joinBySides", "(I)Z"⟩, 16), (⟨"BluesAndGreens", "addedBy", "(II)I"⟩, 16), (⟨"BluesAndGreens$City", "drawnIn", "(I)I"⟩, 12), (⟨"BluesAndGreens", "tellFraction", "(JJ)V"⟩, 16), (⟨"BluesAndGreens$Heard", "fitsAll", "(LBluesAndGreens$City;I)Z"⟩, 3), (⟨"BluesAndGreens", "drawnYear", "()I"⟩, 16), (⟨"java/lang/Throwable", "fillInStackTrace", "(I)Ljava/lang/Throwable;"⟩, 6), (⟨"BluesAndGreensModel", "beginText", "(I)V"⟩, 41), (⟨"BluesAndGreensModel", "begin", "([BII)V"⟩, 41), (⟨"BluesAndGreensModel", "fine", "()Z"⟩, 41), (⟨"BluesAndGreensModel", "fault", "(I)V"⟩, 41), (⟨"BluesAndGreensModel", "oneOf", "(CI)I"⟩, 41), (⟨"BluesAndGreensModel", "here", "()I"⟩, 41), (⟨"BluesAndGreensModel", "number", "(I)I"⟩, 41), (⟨"BluesAndGreensModel", "readClub", "()I"⟩, 41)]
theorem lw_r2 : ∀ q ∈ lw_privs_2, lw_okq q := List.forall_mem_cons.mpr ⟨lw_p16, List.forall_mem_cons.mpr ⟨lw_p17, List.forall_mem_cons.mpr ⟨lw_p18, List.forall_mem_cons.mpr ⟨lw_p19, List.forall_mem_cons.mpr ⟨lw_p20, List.forall_mem_cons.mpr ⟨lw_p21, List.forall_mem_cons.mpr ⟨lw_p22, List.forall_mem_cons.mpr ⟨lw_p23, List.forall_mem_cons.mpr ⟨lw_p24, List.forall_mem_cons.mpr ⟨lw_p25, List.forall_mem_cons.mpr ⟨lw_p26, List.forall_mem_cons.mpr ⟨lw_p27, List.forall_mem_cons.mpr ⟨lw_p28, List.forall_mem_cons.mpr ⟨lw_p29, List.forall_mem_cons.mpr ⟨lw_p30, List.forall_mem_cons.mpr ⟨lw_p31, fun _ h => absurd h List.not_mem_nil⟩⟩⟩⟩⟩⟩⟩⟩⟩⟩⟩⟩⟩⟩⟩⟩
theorem lw_p32 : lw_okq (⟨"BluesAndGreensModel", "passes", "(C)Z"⟩, 41) := ⟨⟨by decide +kernel, by decide +kernel⟩, List.mem_of_getElem? (i := 1172) (by decide +kernel), List.mem_of_getElem? (i := 1353) (by decide +kernel), List.mem_of_getElem? (i := 1354) (by decide +kernel)⟩
theorem lw_p33 : lw_okq (⟨"BluesAndGreensModel", "need", "(C)V"⟩, 41) := ⟨⟨by decide +kernel, by decide +kernel⟩, List.mem_of_getElem? (i := 1172) (by decide +kernel), List.mem_of_getElem? (i := 1357) (by decide +kernel), List.mem_of_getElem? (i := 1358) (by decide +kernel)⟩
theorem lw_p34 : lw_okq (⟨"BluesAndGreensModel", "wasRight", "()Z"⟩, 41) := ⟨⟨by decide +kernel, by decide +kernel⟩, List.mem_of_getElem? (i := 1172) (by decide +kernel), List.mem_of_getElem? (i := 1361) (by decide +kernel), List.mem_of_getElem? (i := 1362) (by decide +kernel)⟩
theorem lw_p35 : lw_okq (⟨"BluesAndGreensModel", "told", "()V"⟩, 41) := ⟨⟨by decide +kernel, by decide +kernel⟩, List.mem_of_getElem? (i := 1172) (by decide +kernel), List.mem_of_getElem? (i := 1365) (by decide +kernel), List.mem_of_getElem? (i := 1366) (by decide +kernel)⟩
theorem lw_p36 : lw_okq (⟨"BluesAndGreensModel", "readQuarter", "(I)V"⟩, 41) := ⟨⟨by decide +kernel, by decide +kernel⟩, List.mem_of_getElem? (i := 1172) (by decide +kernel), List.mem_of_getElem? (i := 1373) (by decide +kernel), List.mem_of_getElem? (i := 1374) (by decide +kernel)⟩
theorem lw_p37 : lw_okq (⟨"BluesAndGreensModel", "readRule", "()Z"⟩, 41) := ⟨⟨by decide +kernel, by decide +kernel⟩, List.mem_of_getElem? (i := 1172) (by decide +kernel), List.mem_of_getElem? (i := 1385) (by decide +kernel), List.mem_of_getElem? (i := 1386) (by decide +kernel)⟩
theorem lw_p38 : lw_okq (⟨"BluesAndGreensModel", "held", "(I)I"⟩, 41) := ⟨⟨by decide +kernel, by decide +kernel⟩, List.mem_of_getElem? (i := 1172) (by decide +kernel), List.mem_of_getElem? (i := 1389) (by decide +kernel), List.mem_of_getElem? (i := 1390) (by decide +kernel)⟩
theorem lw_p39 : lw_okq (⟨"BluesAndGreensModel", "sum", "(I)I"⟩, 41) := ⟨⟨by decide +kernel, by decide +kernel⟩, List.mem_of_getElem? (i := 1172) (by decide +kernel), List.mem_of_getElem? (i := 1393) (by decide +kernel), List.mem_of_getElem? (i := 1394) (by decide +kernel)⟩
theorem lw_p40 : lw_okq (⟨"BluesAndGreensModel", "product", "(I)I"⟩, 41) := ⟨⟨by decide +kernel, by decide +kernel⟩, List.mem_of_getElem? (i := 1172) (by decide +kernel), List.mem_of_getElem? (i := 1397) (by decide +kernel), List.mem_of_getElem? (i := 1398) (by decide +kernel)⟩
theorem lw_p41 : lw_okq (⟨"BluesAndGreensModel", "thing", "(I)I"⟩, 41) := ⟨⟨by decide +kernel, by decide +kernel⟩, List.mem_of_getElem? (i := 1172) (by decide +kernel), List.mem_of_getElem? (i := 1401) (by decide +kernel), List.mem_of_getElem? (i := 1402) (by decide +kernel)⟩
theorem lw_p42 : lw_okq (⟨"BluesAndGreensModel", "isDriver", "(I)Z"⟩, 41) := ⟨⟨by decide +kernel, by decide +kernel⟩, List.mem_of_getElem? (i := 1172) (by decide +kernel), List.mem_of_getElem? (i := 1412) (by decide +kernel), List.mem_of_getElem? (i := 1413) (by decide +kernel)⟩
theorem lw_p43 : lw_okq (⟨"BluesAndGreensModel", "lost", "()I"⟩, 41) := ⟨⟨by decide +kernel, by decide +kernel⟩, List.mem_of_getElem? (i := 1172) (by decide +kernel), List.mem_of_getElem? (i := 1416) (by decide +kernel), List.mem_of_getElem? (i := 1417) (by decide +kernel)⟩
theorem lw_p44 : lw_okq (⟨"BluesAndGreensModel", "strengthOf", "([II)I"⟩, 41) := ⟨⟨by decide +kernel, by decide +kernel⟩, List.mem_of_getElem? (i := 1172) (by decide +kernel), List.mem_of_getElem? (i := 1424) (by decide +kernel), List.mem_of_getElem? (i := 1425) (by decide +kernel)⟩
theorem lw_p45 : lw_okq (⟨"BluesAndGreensModel", "driversOf", "([II)I"⟩, 41) := ⟨⟨by decide +kernel, by decide +kernel⟩, List.mem_of_getElem? (i := 1172) (by decide +kernel), List.mem_of_getElem? (i := 1443) (by decide +kernel), List.mem_of_getElem? (i := 1444) (by decide +kernel)⟩
theorem lw_p46 : lw_okq (⟨"BluesAndGreensModel", "quartersOf", "(I)I"⟩, 41) := ⟨⟨by decide +kernel, by decide +kernel⟩, List.mem_of_getElem? (i := 1172) (by decide +kernel), List.mem_of_getElem? (i := 1447) (by decide +kernel), List.mem_of_getElem? (i := 1448) (by decide +kernel)⟩
theorem lw_p47 : lw_okq (⟨"BluesAndGreensModel", "crowdsOf", "(I)I"⟩, 41) := ⟨⟨by decide +kernel, by decide +kernel⟩, List.mem_of_getElem? (i := 1172) (by decide +kernel), List.mem_of_getElem? (i := 1451) (by decide +kernel), List.mem_of_getElem? (i := 1452) (by decide +kernel)⟩
def lw_privs_3 : List (MethodName × Nat) := [(⟨"BluesAndGreensModel", "passes", "(C)Z"⟩, 41), (⟨"BluesAndGreensModel", "need", "(C)V"⟩, 41), (⟨"BluesAndGreensModel", "wasRight", "()Z"⟩, 41), (⟨"BluesAndGreensModel", "told", "()V"⟩, 41), (⟨"BluesAndGreensModel", "readQuarter", "(I)V"⟩, 41), (⟨"BluesAndGreensModel", "readRule", "()Z"⟩, 41), (⟨"BluesAndGreensModel", "held", "(I)I"⟩, 41), (⟨"BluesAndGreensModel", "sum", "(I)I"⟩, 41), (⟨"BluesAndGreensModel", "product", "(I)I"⟩, 41), (⟨"BluesAndGreensModel", "thing", "(I)I"⟩, 41), (⟨"BluesAndGreensModel", "isDriver", "(I)Z"⟩, 41), (⟨"BluesAndGreensModel", "lost", "()I"⟩, 41), (⟨"BluesAndGreensModel", "strengthOf", "([II)I"⟩, 41), (⟨"BluesAndGreensModel", "driversOf", "([II)I"⟩, 41), (⟨"BluesAndGreensModel", "quartersOf", "(I)I"⟩, 41), (⟨"BluesAndGreensModel", "crowdsOf", "(I)I"⟩, 41)]
theorem lw_r3 : ∀ q ∈ lw_privs_3, lw_okq q := List.forall_mem_cons.mpr ⟨lw_p32, List.forall_mem_cons.mpr ⟨lw_p33, List.forall_mem_cons.mpr ⟨lw_p34, List.forall_mem_cons.mpr ⟨lw_p35, List.forall_mem_cons.mpr ⟨lw_p36, List.forall_mem_cons.mpr ⟨lw_p37, List.forall_mem_cons.mpr ⟨lw_p38, List.forall_mem_cons.mpr ⟨lw_p39, List.forall_mem_cons.mpr ⟨lw_p40, List.forall_mem_cons.mpr ⟨lw_p41, List.forall_mem_cons.mpr ⟨lw_p42, List.forall_mem_cons.mpr ⟨lw_p43, List.forall_mem_cons.mpr ⟨lw_p44, List.forall_mem_cons.mpr ⟨lw_p45, List.forall_mem_cons.mpr ⟨lw_p46, List.forall_mem_cons.mpr ⟨lw_p47, fun _ h => absurd h List.not_mem_nil⟩⟩⟩⟩⟩⟩⟩⟩⟩⟩⟩⟩⟩⟩⟩⟩
theorem lw_p48 : lw_okq (⟨"BluesAndGreensModel", "remember", "([I)V"⟩, 41) := ⟨⟨by decide +kernel, by decide +kernel⟩, List.mem_of_getElem? (i := 1172) (by decide +kernel), List.mem_of_getElem? (i := 1472) (by decide +kernel), List.mem_of_getElem? (i := 1473) (by decide +kernel)⟩
theorem lw_p49 : lw_okq (⟨"BluesAndGreensModel", "goRaces", "([II)V"⟩, 41) := ⟨⟨by decide +kernel, by decide +kernel⟩, List.mem_of_getElem? (i := 1172) (by decide +kernel), List.mem_of_getElem? (i := 1479) (by decide +kernel), List.mem_of_getElem? (i := 1480) (by decide +kernel)⟩
theorem lw_p50 : lw_okq (⟨"BluesAndGreensModel", "goRace", "([I)I"⟩, 41) := ⟨⟨by decide +kernel, by decide +kernel⟩, List.mem_of_getElem? (i := 1172) (by decide +kernel), List.mem_of_getElem? (i := 1483) (by decide +kernel), List.mem_of_getElem? (i := 1484) (by decide +kernel)⟩
theorem lw_p51 : lw_okq (⟨"BluesAndGreensModel", "winner", "([I)I"⟩, 41) := ⟨⟨by decide +kernel, by decide +kernel⟩, List.mem_of_getElem? (i := 1172) (by decide +kernel), List.mem_of_getElem? (i := 1487) (by decide +kernel), List.mem_of_getElem? (i := 1488) (by decide +kernel)⟩
theorem lw_p52 : lw_okq (⟨"BluesAndGreensModel", "doJoin", "([I)Z"⟩, 41) := ⟨⟨by decide +kernel, by decide +kernel⟩, List.mem_of_getElem? (i := 1172) (by decide +kernel), List.mem_of_getElem? (i := 1497) (by decide +kernel), List.mem_of_getElem? (i := 1498) (by decide +kernel)⟩
theorem lw_p53 : lw_okq (⟨"BluesAndGreensModel", "tell", "(J)V"⟩, 41) := ⟨⟨by decide +kernel, by decide +kernel⟩, List.mem_of_getElem? (i := 1172) (by decide +kernel), List.mem_of_getElem? (i := 1501) (by decide +kernel), List.mem_of_getElem? (i := 1502) (by decide +kernel)⟩
theorem lw_p54 : lw_okq (⟨"BluesAndGreensModel", "refusesBuy", "([III)I"⟩, 41) := ⟨⟨by decide +kernel, by decide +kernel⟩, List.mem_of_getElem? (i := 1172) (by decide +kernel), List.mem_of_getElem? (i := 1509) (by decide +kernel), List.mem_of_getElem? (i := 1510) (by decide +kernel)⟩
theorem lw_p55 : lw_okq (⟨"BluesAndGreensModel", "goBuy", "([III)V"⟩, 41) := ⟨⟨by decide +kernel, by decide +kernel⟩, List.mem_of_getElem? (i := 1172) (by decide +kernel), List.mem_of_getElem? (i := 1513) (by decide +kernel), List.mem_of_getElem? (i := 1514) (by decide +kernel)⟩
theorem lw_p56 : lw_okq (⟨"BluesAndGreensModel", "refusesCurse", "(II)I"⟩, 41) := ⟨⟨by decide +kernel, by decide +kernel⟩, List.mem_of_getElem? (i := 1172) (by decide +kernel), List.mem_of_getElem? (i := 1521) (by decide +kernel), List.mem_of_getElem? (i := 1522) (by decide +kernel)⟩
theorem lw_p57 : lw_okq (⟨"BluesAndGreensModel", "refusesDig", "(I)I"⟩, 41) := ⟨⟨by decide +kernel, by decide +kernel⟩, List.mem_of_getElem? (i := 1172) (by decide +kernel), List.mem_of_getElem? (i := 1532) (by decide +kernel), List.mem_of_getElem? (i := 1533) (by decide +kernel)⟩
theorem lw_p58 : lw_okq (⟨"BluesAndGreensModel", "goDig", "(I)V"⟩, 41) := ⟨⟨by decide +kernel, by decide +kernel⟩, List.mem_of_getElem? (i := 1172) (by decide +kernel), List.mem_of_getElem? (i := 1536) (by decide +kernel), List.mem_of_getElem? (i := 1537) (by decide +kernel)⟩
theorem lw_p59 : lw_okq (⟨"BluesAndGreensModel", "refusesShow", "(II)I"⟩, 41) := ⟨⟨by decide +kernel, by decide +kernel⟩, List.mem_of_getElem? (i := 1172) (by decide +kernel), List.mem_of_getElem? (i := 1548) (by decide +kernel), List.mem_of_getElem? (i := 1549) (by decide +kernel)⟩
theorem lw_p60 : lw_okq (⟨"BluesAndGreensModel", "goShow", "([III)V"⟩, 41) := ⟨⟨by decide +kernel, by decide +kernel⟩, List.mem_of_getElem? (i := 1172) (by decide +kernel), List.mem_of_getElem? (i := 1552) (by decide +kernel), List.mem_of_getElem? (i := 1553) (by decide +kernel)⟩
theorem lw_p61 : lw_okq (⟨"BluesAndGreensModel", "readAct", "(I)V"⟩, 41) := ⟨⟨by decide +kernel, by decide +kernel⟩, List.mem_of_getElem? (i := 1172) (by decide +kernel), List.mem_of_getElem? (i := 1560) (by decide +kernel), List.mem_of_getElem? (i := 1561) (by decide +kernel)⟩
theorem lw_p62 : lw_okq (⟨"BluesAndGreensModel", "act", "(III)Z"⟩, 41) := ⟨⟨by decide +kernel, by decide +kernel⟩, List.mem_of_getElem? (i := 1172) (by decide +kernel), List.mem_of_getElem? (i := 1564) (by decide +kernel), List.mem_of_getElem? (i := 1565) (by decide +kernel)⟩
theorem lw_p63 : lw_okq (⟨"BluesAndGreensModel", "doesWin", "([II)Z"⟩, 41) := ⟨⟨by decide +kernel, by decide +kernel⟩, List.mem_of_getElem? (i := 1172) (by decide +kernel), List.mem_of_getElem? (i := 1588) (by decide +kernel), List.mem_of_getElem? (i := 1589) (by decide +kernel)⟩
def lw_privs_4 : List (MethodName × Nat) := [(⟨"BluesAndGreensModel", "remember", "([I)V"⟩, 41), (⟨"BluesAndGreensModel", "goRaces", "([II)V"⟩, 41), (⟨"BluesAndGreensModel", "goRace", "([I)I"⟩, 41), (⟨"BluesAndGreensModel", "winner", "([I)I"⟩, 41), (⟨"BluesAndGreensModel", "doJoin", "([I)Z"⟩, 41), (⟨"BluesAndGreensModel", "tell", "(J)V"⟩, 41), (⟨"BluesAndGreensModel", "refusesBuy", "([III)I"⟩, 41), (⟨"BluesAndGreensModel", "goBuy", "([III)V"⟩, 41), (⟨"BluesAndGreensModel", "refusesCurse", "(II)I"⟩, 41), (⟨"BluesAndGreensModel", "refusesDig", "(I)I"⟩, 41), (⟨"BluesAndGreensModel", "goDig", "(I)V"⟩, 41), (⟨"BluesAndGreensModel", "refusesShow", "(II)I"⟩, 41), (⟨"BluesAndGreensModel", "goShow", "([III)V"⟩, 41), (⟨"BluesAndGreensModel", "readAct", "(I)V"⟩, 41), (⟨"BluesAndGreensModel", "act", "(III)Z"⟩, 41), (⟨"BluesAndGreensModel", "doesWin", "([II)Z"⟩, 41)]
theorem lw_r4 : ∀ q ∈ lw_privs_4, lw_okq q := List.forall_mem_cons.mpr ⟨lw_p48, List.forall_mem_cons.mpr ⟨lw_p49, List.forall_mem_cons.mpr ⟨lw_p50, List.forall_mem_cons.mpr ⟨lw_p51, List.forall_mem_cons.mpr ⟨lw_p52, List.forall_mem_cons.mpr ⟨lw_p53, List.forall_mem_cons.mpr ⟨lw_p54, List.forall_mem_cons.mpr ⟨lw_p55, List.forall_mem_cons.mpr ⟨lw_p56, List.forall_mem_cons.mpr ⟨lw_p57, List.forall_mem_cons.mpr ⟨lw_p58, List.forall_mem_cons.mpr ⟨lw_p59, List.forall_mem_cons.mpr ⟨lw_p60, List.forall_mem_cons.mpr ⟨lw_p61, List.forall_mem_cons.mpr ⟨lw_p62, List.forall_mem_cons.mpr ⟨lw_p63, fun _ h => absurd h List.not_mem_nil⟩⟩⟩⟩⟩⟩⟩⟩⟩⟩⟩⟩⟩⟩⟩⟩
theorem lw_p64 : lw_okq (⟨"BluesAndGreensModel", "areToCurse", "(II)Z"⟩, 41) := ⟨⟨by decide +kernel, by decide +kernel⟩, List.mem_of_getElem? (i := 1172) (by decide +kernel), List.mem_of_getElem? (i := 1597) (by decide +kernel), List.mem_of_getElem? (i := 1598) (by decide +kernel)⟩
theorem lw_p65 : lw_okq (⟨"BluesAndGreensModel", "sumOf", "([II)I"⟩, 41) := ⟨⟨by decide +kernel, by decide +kernel⟩, List.mem_of_getElem? (i := 1172) (by decide +kernel), List.mem_of_getElem? (i := 1605) (by decide +kernel), List.mem_of_getElem? (i := 1606) (by decide +kernel)⟩
theorem lw_p66 : lw_okq (⟨"BluesAndGreensModel", "notShown", "()I"⟩, 41) := ⟨⟨by decide +kernel, by decide +kernel⟩, List.mem_of_getElem? (i := 1172) (by decide +kernel), List.mem_of_getElem? (i := 1613) (by decide +kernel), List.mem_of_getElem? (i := 1614) (by decide +kernel)⟩
theorem lw_p67 : lw_okq (⟨"BluesAndGreensModel", "doesSet", "(II)Z"⟩, 41) := ⟨⟨by decide +kernel, by decide +kernel⟩, List.mem_of_getElem? (i := 1172) (by decide +kernel), List.mem_of_getElem? (i := 1617) (by decide +kernel), List.mem_of_getElem? (i := 1618) (by decide +kernel)⟩
theorem lw_p68 : lw_okq (⟨"BluesAndGreensModel", "adds", "(II)I"⟩, 41) := ⟨⟨by decide +kernel, by decide +kernel⟩, List.mem_of_getElem? (i := 1172) (by decide +kernel), List.mem_of_getElem? (i := 1633) (by decide +kernel), List.mem_of_getElem? (i := 1634) (by decide +kernel)⟩
theorem lw_p69 : lw_okq (⟨"BluesAndGreensModel", "areQuarters", "(I)Z"⟩, 41) := ⟨⟨by decide +kernel, by decide +kernel⟩, List.mem_of_getElem? (i := 1172) (by decide +kernel), List.mem_of_getElem? (i := 1641) (by decide +kernel), List.mem_of_getElem? (i := 1642) (by decide +kernel)⟩
theorem lw_p70 : lw_okq (⟨"BluesAndGreensModel", "riotsBy", "(II)I"⟩, 41) := ⟨⟨by decide +kernel, by decide +kernel⟩, List.mem_of_getElem? (i := 1172) (by decide +kernel), List.mem_of_getElem? (i := 1645) (by decide +kernel), List.mem_of_getElem? (i := 1646) (by decide +kernel)⟩
theorem lw_p71 : lw_okq (⟨"BluesAndGreensModel", "allQuarters", "()I"⟩, 41) := ⟨⟨by decide +kernel, by decide +kernel⟩, List.mem_of_getElem? (i := 1172) (by decide +kernel), List.mem_of_getElem? (i := 1653) (by decide +kernel), List.mem_of_getElem? (i := 1654) (by decide +kernel)⟩
theorem lw_p72 : lw_okq (⟨"BluesAndGreensModel", "keptIn", "(II)I"⟩, 41) := ⟨⟨by decide +kernel, by decide +kernel⟩, List.mem_of_getElem? (i := 1172) (by decide +kernel), List.mem_of_getElem? (i := 1665) (by decide +kernel), List.mem_of_getElem? (i := 1666) (by decide +kernel)⟩
theorem lw_p73 : lw_okq (⟨"BluesAndGreensModel", "tellPart", "(JJ)V"⟩, 41) := ⟨⟨by decide +kernel, by decide +kernel⟩, List.mem_of_getElem? (i := 1172) (by decide +kernel), List.mem_of_getElem? (i := 1681) (by decide +kernel), List.mem_of_getElem? (i := 1682) (by decide +kernel)⟩
theorem lw_p74 : lw_okq (⟨"BluesAndGreensModel", "fitting", "()I"⟩, 41) := ⟨⟨by decide +kernel, by decide +kernel⟩, List.mem_of_getElem? (i := 1172) (by decide +kernel), List.mem_of_getElem? (i := 1705) (by decide +kernel), List.mem_of_getElem? (i := 1706) (by decide +kernel)⟩
theorem lw_p75 : lw_okq (⟨"BluesAndGreensModel", "fits", "(III)Z"⟩, 41) := ⟨⟨by decide +kernel, by decide +kernel⟩, List.mem_of_getElem? (i := 1172) (by decide +kernel), List.mem_of_getElem? (i := 1709) (by decide +kernel), List.mem_of_getElem? (i := 1710) (by decide +kernel)⟩
theorem lw_p76 : lw_okq (⟨"BluesAndGreensModel", "bluesOf", "(I)I"⟩, 41) := ⟨⟨by decide +kernel, by decide +kernel⟩, List.mem_of_getElem? (i := 1172) (by decide +kernel), List.mem_of_getElem? (i := 1735) (by decide +kernel), List.mem_of_getElem? (i := 1736) (by decide +kernel)⟩
theorem lw_p77 : lw_okq (⟨"BluesAndGreensModel", "draw", "(I)I"⟩, 41) := ⟨⟨by decide +kernel, by decide +kernel⟩, List.mem_of_getElem? (i := 1172) (by decide +kernel), List.mem_of_getElem? (i := 1743) (by decide +kernel), List.mem_of_getElem? (i := 1744) (by decide +kernel)⟩
theorem lw_p78 : lw_okq (⟨"BluesAndGreensModel", "cursedBits", "()I"⟩, 41) := ⟨⟨by decide +kernel, by decide +kernel⟩, List.mem_of_getElem? (i := 1172) (by decide +kernel), List.mem_of_getElem? (i := 1760) (by decide +kernel), List.mem_of_getElem? (i := 1761) (by decide +kernel)⟩
def lw_privs_5 : List (MethodName × Nat) := [(⟨"BluesAndGreensModel", "areToCurse", "(II)Z"⟩, 41), (⟨"BluesAndGreensModel", "sumOf", "([II)I"⟩, 41), (⟨"BluesAndGreensModel", "notShown", "()I"⟩, 41), (⟨"BluesAndGreensModel", "doesSet", "(II)Z"⟩, 41), (⟨"BluesAndGreensModel", "adds", "(II)I"⟩, 41), (⟨"BluesAndGreensModel", "areQuarters", "(I)Z"⟩, 41), (⟨"BluesAndGreensModel", "riotsBy", "(II)I"⟩, 41), (⟨"BluesAndGreensModel", "allQuarters", "()I"⟩, 41), (⟨"BluesAndGreensModel", "keptIn", "(II)I"⟩, 41), (⟨"BluesAndGreensModel", "tellPart", "(JJ)V"⟩, 41), (⟨"BluesAndGreensModel", "fitting", "()I"⟩, 41), (⟨"BluesAndGreensModel", "fits", "(III)Z"⟩, 41), (⟨"BluesAndGreensModel", "bluesOf", "(I)I"⟩, 41), (⟨"BluesAndGreensModel", "draw", "(I)I"⟩, 41), (⟨"BluesAndGreensModel", "cursedBits", "()I"⟩, 41)]
theorem lw_r5 : ∀ q ∈ lw_privs_5, lw_okq q := List.forall_mem_cons.mpr ⟨lw_p64, List.forall_mem_cons.mpr ⟨lw_p65, List.forall_mem_cons.mpr ⟨lw_p66, List.forall_mem_cons.mpr ⟨lw_p67, List.forall_mem_cons.mpr ⟨lw_p68, List.forall_mem_cons.mpr ⟨lw_p69, List.forall_mem_cons.mpr ⟨lw_p70, List.forall_mem_cons.mpr ⟨lw_p71, List.forall_mem_cons.mpr ⟨lw_p72, List.forall_mem_cons.mpr ⟨lw_p73, List.forall_mem_cons.mpr ⟨lw_p74, List.forall_mem_cons.mpr ⟨lw_p75, List.forall_mem_cons.mpr ⟨lw_p76, List.forall_mem_cons.mpr ⟨lw_p77, List.forall_mem_cons.mpr ⟨lw_p78, fun _ h => absurd h List.not_mem_nil⟩⟩⟩⟩⟩⟩⟩⟩⟩⟩⟩⟩⟩⟩⟩
def lw_privs : List (MethodName × Nat) := lw_privs_1 ++ (lw_privs_2 ++ (lw_privs_3 ++ (lw_privs_4 ++ (lw_privs_5))))
def lw_tbl : List Cond := k2_sels lw_privs ++ tables_1
theorem lw_privs_ok : ∀ q ∈ lw_privs, lw_okq q := by
  show ∀ q ∈ lw_privs_1 ++ (lw_privs_2 ++ (lw_privs_3 ++ (lw_privs_4 ++ (lw_privs_5)))), lw_okq q
  exact List.forall_mem_append.mpr ⟨lw_r1, List.forall_mem_append.mpr ⟨lw_r2, List.forall_mem_append.mpr ⟨lw_r3, List.forall_mem_append.mpr ⟨lw_r4, lw_r5⟩⟩⟩⟩
end
section
/-! ===== BEGIN words of one list among another's, by their places ===== -/
theorem goodIn_r {big : List Cond} (ws : List Cond) (ps : List Nat) (hp : ws = ps.filterMap (fun i => big[i]?)) (h : ws.all goodWord = true) : GoodIn big ws := by
  intro w hw
  have h1 := List.all_eq_true.mp h w hw
  rw [hp] at hw
  obtain ⟨i, -, hi⟩ := List.mem_filterMap.mp hw
  have hm : w ∈ big := by first | exact List.mem_of_getElem? hi | exact List.getElem?_mem hi
  exact ⟨hm, good_of_word h1⟩
theorem goodIn_app {big a b : List Cond} (ha : GoodIn big a) (hb : GoodIn big b) : GoodIn big (a ++ b) := fun w h => (List.mem_append.mp h).elim (ha w) (hb w)
theorem goodIn_ca {big a b : List Cond} {c : Cond} (ha : GoodIn big (c :: a)) (hb : GoodIn big b) : GoodIn big (c :: (a ++ b)) := fun w h => (List.mem_cons.mp h).elim (fun e => ha w (List.mem_cons.mpr (Or.inl e))) (fun h => (List.mem_append.mp h).elim (fun h => ha w (List.mem_cons.mpr (Or.inr h))) (hb w))
theorem goodIn_sub {big ws : List Cond} (hm : ∀ w ∈ ws, w ∈ big) (h : ws.all goodWord = true) : GoodIn big ws := fun w hw => ⟨hm w hw, good_of_word (List.all_eq_true.mp h w hw)⟩
/-! ===== END ===== -/

/-! ===== BEGIN exceptions that leave a method, and their catching by the caller (launches without stack traces) ===== -/
section VXA
/-! The laws vx_back, vx_callV, vx_callS, vx_callSW, vx_throw0, vx_throwS follow proofs of the library, with one case more: JvmDerived/Free/Laws.lean (Back.of_free), Shelf42/LK1.lean (callV, callS), Shelf/KitTraced.lean (throwNew0V, throwNewS). -/
/-- where a method has thrown q: the class by its name, the cell, what was written, the world -/
def vx_T (XC : String → State → State → Prop) (st : State) (q : Addr) (t : State) (mc ms : Nat) (free : Addr → Prop) : Prop :=
  ∃ (E : String) (ce : Cell) (L : List Loc), XC E st t ∧ t.heap[q]? = some ce ∧ ce.vm = .none ∧ st.vm.findClass E = some ce.cls ∧ st.WarmedH t.vm ∧ st.sameButNew ({ t with vm := st.vm } : State) L mc ms ∧ ∀ z ∈ L, free z.base
def vx_Q (Qc : Array Value → State → Outcome → State → Prop) (XC : String → State → State → Prop) (mc ms : Nat) (free : Addr → Prop) : Array Value → State → Outcome → State → Prop := fun a st o t =>
  (Qc a st o t ∧ ∃ L, FrameEnd st o t L mc ms ∧ ∀ q ∈ L, free q.base) ∨ ∃ q, o = .threw q ∧ vx_T XC st q t mc ms free
/-- a callee that returns or throws -/
def vx_Met (l : Launch) (y : MethodName) (ws : List Cond) (rm : Room) (Pc : Array Value → State → Prop) (Qc : Array Value → State → Outcome → State → Prop) (XC : String → State → State → Prop) (mc ms : Nat) (free : Addr → Prop) : Prop :=
  MetFree l y (headSpec ws rm) Pc (fun _ _ _ _ _ => True) (vx_Q Qc XC mc ms free)
def vx_Post (XC : String → State → State → Prop) (mc ms : Nat) (free : Addr → Prop) : Pt → Array Value → Addr → Pt → Prop := fun A a q B =>
  ∃ (g : JFrame) (mk : MethodId) (t : State) (L : List Loc) (E : String) (ce : Cell), B.U.heap = t.heap ∧ B.U.vm = t.vm ∧ XC E (A.U.calling g mk a) t ∧ t.heap[q]? = some ce ∧ ce.vm = .none ∧ A.U.vm.findClass E = some ce.cls ∧ B.locs = A.locs ++ L ∧ (∀ z ∈ L, free z.base) ∧ B.cells = A.cells + mc ∧ B.slots = A.slots + ms
def vx_Back (l : Launch) (R : Room) (p : Program) (e : Env) (below : List Frame) (s : State) (sargs : Array Value) (y : MethodName) (len W9 : Nat)
    (Pre : Pt → Array Value → Prop) (Post : Pt → Array Value → Option Value → Pt → Prop) (PostX : Pt → Array Value → Addr → Pt → Prop) : Prop :=
  ∀ (m : MethodId) (meth : Method) (c : Code) (A : Pt) (g : JFrame) (ig : Instr) (mk : MethodId) (a : Array Value),
    Stand p l e R s m sargs below meth c A.U A.locs A.cells A.slots → g.method = m → g.locals.size = c.maxLocals → decode c.code g.pc = .ok (ig, len) →
    2 * g.monitorRoom + (g.stack.map fun v => v.category).sum ≤ W9 → A.U.methodNamed? y = some mk → Pre A a →
    (∃ (v : Option Value) (B : Pt), Stand p l e R s m sargs below meth c B.U B.locs B.cells B.slots ∧ Post A a v B ∧
      Steps p.tables e below (doInvoke e (A.U.setTop g) [] mk a).1 (B.U.setTop { g with pc := g.pc + len, stack := v.toList ++ g.stack })) ∨
    (∃ (q : Addr) (B : Pt), Stand p l e R s m sargs below meth c B.U B.locs B.cells B.slots ∧ PostX A a q B ∧
      Steps p.tables e below (doInvoke e (A.U.setTop g) [] mk a).1 ((B.U.setTop g).pushFrame (.throwing q)))
section Payer
variable {l : Launch} {R : Room} {p : Program} {e : Env} {below : List Frame} {s : State} {sargs : Array Value} {y : MethodName} {len W9 : Nat}
theorem vx_back {ws : List Cond} {rm : Room} {Pc : Array Value → State → Prop} {Qc : Array Value → State → Outcome → State → Prop} {XC : String → State → State → Prop} {mc ms : Nat} {free : Addr → Prop} {bytes : ByteArray} {maxL : Nat} {ret : Option FieldType}
    (hM : vx_Met l y ws rm Pc Qc XC mc ms free) (hblind : FrameBlind Pc) (hrc : rm.cells = mc) (hrs : rm.slots = ms)
    (hframes : rm.frames + 1 ≤ R.frames) (hlocals : W9 + (maxL + 11) + rm.locals ≤ R.locals)
    (hws : ∀ w ∈ ws, ∀ a' U, s.WarmedH U.vm → w.before a' U = true) (hcode : Cond.code y bytes maxL ret ∈ ws) (hinit : ∀ a' U, s.WarmedH U.vm → (Cond.initialized y.cls).before a' U = true) :
    vx_Back l R p e below s sargs y len W9 (PreOf R mc ms Pc) (PostOf Qc mc ms free) (vx_Post XC mc ms free) := by
  intro m meth c A g ig mk a X hg hsize hdg hW hn hp
  have h1 : (headSpec ws rm).pre.before a A.U = true := atoms_intro fun w hw => hws w hw _ _ X.warmed
  have h2 : (Cond.code y bytes maxL ret).before a A.U = true := hws _ hcode _ _ X.warmed
  have h3 : (Cond.initialized y.cls).before a A.U = true := hinit _ _ X.warmed
  have h4 : A.cells + (headSpec ws rm).room.cells ≤ R.cells := by rw [show (headSpec ws rm).room.cells = mc from hrc]; exact hp.1
  have h5 : A.slots + (headSpec ws rm).room.slots ≤ R.slots := by rw [show (headSpec ws rm).room.slots = ms from hrs]; exact hp.2.1
  have hPc : Pc a (A.U.calling g mk a) := hblind _ _ _ _ hp.2.2
  obtain ⟨U, Ls, c0, s0⟩ := A
  dsimp only [Pt.U, Pt.locs, Pt.cells, Pt.slots] at h1 h2 h3 h4 h5 X hn hPc ⊢
  obtain ⟨methY, cY, hmY, hcY, -, hlY, -, -, -, -⟩ := Cond.code_spec hn h2
  obtain ⟨kY, hkY, -⟩ := className_of_methodNamed hn
  have hinitY : kY.init = .initialized := Cond.initialized_spec (findClass_of_methodNamed hn) hkY h3
  have h : At U g.method c below := by rw [hg]; exact X.here
  have hlocals9 : W9 + (maxL + 11) + (headSpec ws rm).room.locals ≤ R.locals := hlocals
  have happ : (headSpec ws rm).appliesLoose y e.platform (U.calling g mk a) = true :=
    Spec.appliesLoose_calling (g := g) h hdg hn hkY hinitY
      (X.room_calling (g := g) (R' := (headSpec ws rm).room) hsize hmY hcY hframes (by rw [hlY]; omega) h4 h5) h1
  obtain ⟨mid, hmid⟩ := h.above
  have hfr : (U.setTop g).frames = (.java g :: mid) ++ below := by rw [State.frames_setTop' g h.top, hmid]; rfl
  obtain ⟨o, s₂, hsteps, -, hend, hq⟩ := Steps.callFree hM p X.admits X.cas X.clock (acts := []) hfr happ hPc trivial
  have hq' : vx_Q Qc XC mc ms free a (U.calling g mk a) o s₂ := hq
  rw [State.frames_setTop' g h.top] at hend
  obtain ⟨g₀, hg0⟩ := Option.isSome_iff_exists.mp h.top
  obtain ⟨r, hr⟩ := State.topJava?_eq_some.mp hg0
  have hr' : (({ U with heap := s₂.heap, slotsUsed := s₂.slotsUsed } : State).setVm s₂.vm).frames = .java g₀ :: r := hr
  rcases hq' with ⟨hqc, L, hfe, hL⟩ | ⟨q, rfl, E, ce, L, hx, hce, hcv, hcl, hW₂, hsm, hL⟩
  · obtain ⟨⟨v, rfl⟩, hW₂, e2, q2, q3, q4, q5, q6⟩ := id hfe
    have e3 : s₂ = ({ (U.calling g mk a).setFrames s₂.frames with heap := s₂.heap, slotsUsed := s₂.slotsUsed } : State).setVm s₂.vm := by
      have : s₂ = ({ s₂ with vm := (U.calling g mk a).vm } : State).setVm s₂.vm := rfl
      rw [e2] at this
      exact this
    obtain ⟨c₂, i₂, len₂, hc₂, hd₂, hf₂⟩ := hend
    have hW' : U.WarmedH s₂.vm := hW₂
    have hcc : c₂ = c := by
      have h1 : s₂.code? g.method = U.code? g.method := by
        rw [State.code?_eq, State.code?_eq, hW'.alike.method?]
      exact Option.some.inj (hc₂.symm.trans (h1.trans h.code))
    subst hcc
    have hlen : len₂ = len := by rw [hdg] at hd₂; cases hd₂; rfl
    subst hlen
    have hs₂ : s₂ = (({ U with heap := s₂.heap, slotsUsed := s₂.slotsUsed } : State).setVm s₂.vm).setTop { g with pc := g.pc + len₂, stack := v.toList ++ g.stack } := by
      refine e3.trans ?_
      rw [hf₂, State.calling_eq h.top, State.setFrames_setFrames, State.setTop_of_frames _ hr', hr]
      rfl
    have hsame : U.sameButNew ({ U with heap := s₂.heap, slotsUsed := s₂.slotsUsed } : State) L mc ms := by
      refine ⟨?_, q2, q3, q4, q5, q6⟩
      obtain ⟨t, ht, -⟩ := State.frames_cons hr
      show ({ U with heap := s₂.heap, slotsUsed := s₂.slotsUsed } : State) = { U.setFrames U.frames with heap := s₂.heap, slotsUsed := s₂.slotsUsed }
      rw [State.setFrames_self ht]
    subst hg
    refine Or.inl ⟨v, ⟨(({ U with heap := s₂.heap, slotsUsed := s₂.slotsUsed } : State).setVm s₂.vm), Ls ++ L, c0 + mc, s0 + ms⟩,
      ⟨X.admits, X.cas, X.clock, X.frames, X.room, X.hears, X.method, X.code, (X.here.setHeapUsed s₂.heap s₂.slotsUsed).setVm hW'.alike, X.tail, State.WarmedH.trans X.warmed hW', X.limits, X.bytes, X.same.trans (hsame.setVm s.vm)⟩,
      ⟨g, mk, s₂, L, rfl, rfl, hqc, rfl, hL, rfl, rfl⟩, ?_⟩
    show Steps p.tables e below _ ((({ U with heap := s₂.heap, slotsUsed := s₂.slotsUsed } : State).setVm s₂.vm).setTop { g with pc := g.pc + len₂, stack := v.toList ++ g.stack })
    rw [← hs₂]
    exact hsteps
  · obtain ⟨e2, q2, q3, q4, q5, q6⟩ := id hsm
    have e3 : s₂ = ({ (U.calling g mk a).setFrames s₂.frames with heap := s₂.heap, slotsUsed := s₂.slotsUsed } : State).setVm s₂.vm := by
      have : s₂ = ({ s₂ with vm := (U.calling g mk a).vm } : State).setVm s₂.vm := rfl
      rw [e2] at this
      exact this
    have hf₂ : s₂.frames = .throwing q :: .java g :: U.frames.tail := hend
    have hW' : U.WarmedH s₂.vm := hW₂
    have hs₂ : s₂ = ((({ U with heap := s₂.heap, slotsUsed := s₂.slotsUsed } : State).setVm s₂.vm).setTop g).pushFrame (.throwing q) := by
      refine e3.trans ?_
      rw [hf₂, State.calling_eq h.top, State.setFrames_setFrames, State.pushFrame, State.frames_setTop _ hr', State.setTop_of_frames _ hr', State.setFrames_setFrames, hr]
      rfl
    have hsame : U.sameButNew ({ U with heap := s₂.heap, slotsUsed := s₂.slotsUsed } : State) L mc ms := by
      refine ⟨?_, q2, q3, q4, q5, q6⟩
      obtain ⟨t, ht, -⟩ := State.frames_cons hr
      show ({ U with heap := s₂.heap, slotsUsed := s₂.slotsUsed } : State) = { U.setFrames U.frames with heap := s₂.heap, slotsUsed := s₂.slotsUsed }
      rw [State.setFrames_self ht]
    subst hg
    refine Or.inr ⟨q, ⟨(({ U with heap := s₂.heap, slotsUsed := s₂.slotsUsed } : State).setVm s₂.vm), Ls ++ L, c0 + mc, s0 + ms⟩,
      ⟨X.admits, X.cas, X.clock, X.frames, X.room, X.hears, X.method, X.code, (X.here.setHeapUsed s₂.heap s₂.slotsUsed).setVm hW'.alike, X.tail, State.WarmedH.trans X.warmed hW', X.limits, X.bytes, X.same.trans (hsame.setVm s.vm)⟩,
      ⟨g, mk, s₂, L, E, ce, rfl, rfl, hx, hce, hcv, hcl, rfl, hL, rfl, rfl⟩, ?_⟩
    show Steps p.tables e below _ (((({ U with heap := s₂.heap, slotsUsed := s₂.slotsUsed } : State).setVm s₂.vm).setTop g).pushFrame (.throwing q))
    rw [← hs₂]
    exact hsteps
end Payer
section Calls
variable {p : Program} {l : Launch} {e : Env} {R : Room} {s : State} {m : MethodId} {args : Array Value} {below : List Frame} {meth : Method} {c : Code} {T : State} {locs : List Loc} {cells slots : Nat}
theorem vx_callV (X : Stand p l e R s m args below meth c T locs cells slots) (hexec : p.tables.exec = Jvm.exec) {own C : String} {index : Nat} {y : MethodName} {bytes : ByteArray} {maxL : Nat} {ret : Option FieldType}
    (hown : s.vm.findClass own = some m.cls) (hlink : (Cond.methodLink own index y).before args s = true) (hinst : (Cond.instanceMethod y).before args s = true) (hsel : (Cond.selects C y y).before args s = true)
    (hcode : (Cond.code y bytes maxL ret).before args s = true) (hy : y.cls ≠ "java/lang/invoke/MethodHandle" ∧ y.cls ≠ "java/lang/invoke/VarHandle")
    {W9 : Nat} {Pre : Pt → Array Value → Prop} {Post : Pt → Array Value → Option Value → Pt → Prop} {PostX : Pt → Array Value → Addr → Pt → Prop} (hK : vx_Back l R p e below s args y 3 W9 Pre Post PostX)
    {b : Addr} {cellB : Cell} (hcell : T.heap[b]? = some cellB) (hobj : cellB.vm.isStatics = false) (hcls : s.vm.findClass C = some cellB.cls)
    {g : JFrame} (hg : g.method = m) (hsize : g.locals.size = c.maxLocals) {argsL rest : List Value} (hlen : ∀ sig, parseMethodDescriptor y.desc = some sig → argsL.length = sig.parameters.length)
    (hstack : g.stack = argsL.reverse ++ .ref b :: rest) (hW : 2 * g.monitorRoom + (rest.map fun v => v.category).sum ≤ W9) (hdg : decode c.code g.pc = .ok (.invokevirtual index, 3))
    (hpre : ∀ vm₁, s.WarmedH vm₁ → Pre ⟨T.setVm vm₁, locs, cells, slots⟩ (Value.ref b :: argsL).toArray) :
    (∃ (v : Option Value) (vm₁ : Vm) (B : Pt), s.WarmedH vm₁ ∧ Stand p l e R s m args below meth c B.U B.locs B.cells B.slots ∧ Post ⟨T.setVm vm₁, locs, cells, slots⟩ (Value.ref b :: argsL).toArray v B ∧
      ∀ target, Steps p.tables e below (B.U.setTop { g with pc := g.pc + 3, stack := v.toList ++ rest }) target → Steps p.tables e below (T.setTop g) target) ∨
    (∃ (q : Addr) (vm₁ : Vm) (B : Pt), s.WarmedH vm₁ ∧ Stand p l e R s m args below meth c B.U B.locs B.cells B.slots ∧ PostX ⟨T.setVm vm₁, locs, cells, slots⟩ (Value.ref b :: argsL).toArray q B ∧
      Steps p.tables e below (T.setTop g) ((B.U.setTop { g with stack := rest }).pushFrame (.throwing q))) := by
  obtain ⟨mk, methM, hnamed, hmethM, hstM, habM⟩ := Cond.instanceMethod_spec hinst
  obtain ⟨methM', cM, hmethM', -, -, -, -, -, -, hsigM⟩ := Cond.code_spec hnamed hcode
  cases hmethM.symm.trans hmethM'
  obtain ⟨c2, r2, m2, q1, q2, q3, q4, kP, hkP, hkPi⟩ := Cond.selects_spec hsel
  cases hcls.symm.trans q1
  cases (State.methodFound?_of_named hnamed hy).symm.trans q2
  cases hnamed.symm.trans q3
  have hselP : selectMethod e.platform s.vm cellB.cls mk = .method mk := by rw [Launch.admits_selectMethod X.admits]; exact q4
  obtain ⟨vm₁, X₁, hstep₁⟩ := X.invokevirtual hexec hown hlink hnamed hmethM hstM hkP hkPi hy (a := b) (cell := cellB) hcell
    (fun z h => by rw [h] at hobj; cases hobj) hselP hmethM habM hkP hkPi (g := g) hg (argsL := argsL) (rest := rest) (hlen _ hsigM) hstack hdg
  rcases hK m meth c ⟨T.setVm vm₁, locs, cells, slots⟩ { g with stack := rest } (.invokevirtual index) mk (Value.ref b :: argsL).toArray X₁ hg hsize hdg hW (X₁.named hnamed) (hpre vm₁ X₁.warmed) with ⟨v, B, X', hpost, hsteps⟩ | ⟨q, B, X', hpost, hsteps⟩
  · exact Or.inl ⟨v, vm₁, B, X₁.warmed, X', hpost, fun target h => hstep₁ _ fun acts => by rw [doInvoke_state]; exact hsteps.trans h⟩
  · exact Or.inr ⟨q, vm₁, B, X₁.warmed, X', hpost, hstep₁ _ fun acts => by rw [doInvoke_state]; exact hsteps⟩
theorem vx_callS (X : Stand p l e R s m args below meth c T locs cells slots) (hexec : p.tables.exec = Jvm.exec) {own : String} {index : Nat} {y : MethodName} {bytes : ByteArray} {maxL : Nat} {ret : Option FieldType}
    (hown : s.vm.findClass own = some m.cls) (hlink : (Cond.methodLink own index y).before args s = true) (hstat : (Cond.static y).before args s = true) (hinit : (Cond.initialized y.cls).before args s = true)
    (hcode : (Cond.code y bytes maxL ret).before args s = true) (hy : y.cls ≠ "java/lang/invoke/MethodHandle" ∧ y.cls ≠ "java/lang/invoke/VarHandle")
    {W9 : Nat} {Pre : Pt → Array Value → Prop} {Post : Pt → Array Value → Option Value → Pt → Prop} {PostX : Pt → Array Value → Addr → Pt → Prop} (hK : vx_Back l R p e below s args y 3 W9 Pre Post PostX)
    {g : JFrame} (hg : g.method = m) (hsize : g.locals.size = c.maxLocals) {argsL rest : List Value} (hlen : ∀ sig, parseMethodDescriptor y.desc = some sig → argsL.length = sig.parameters.length)
    (hstack : g.stack = argsL.reverse ++ rest) (hW : 2 * g.monitorRoom + (rest.map fun v => v.category).sum ≤ W9) (hdg : decode c.code g.pc = .ok (.invokestatic index, 3))
    (hpre : ∀ vm₁, s.WarmedH vm₁ → Pre ⟨T.setVm vm₁, locs, cells, slots⟩ argsL.toArray) :
    (∃ (v : Option Value) (vm₁ : Vm) (B : Pt), s.WarmedH vm₁ ∧ Stand p l e R s m args below meth c B.U B.locs B.cells B.slots ∧ Post ⟨T.setVm vm₁, locs, cells, slots⟩ argsL.toArray v B ∧
      ∀ target, Steps p.tables e below (B.U.setTop { g with pc := g.pc + 3, stack := v.toList ++ rest }) target → Steps p.tables e below (T.setTop g) target) ∨
    (∃ (q : Addr) (vm₁ : Vm) (B : Pt), s.WarmedH vm₁ ∧ Stand p l e R s m args below meth c B.U B.locs B.cells B.slots ∧ PostX ⟨T.setVm vm₁, locs, cells, slots⟩ argsL.toArray q B ∧
      Steps p.tables e below (T.setTop g) ((B.U.setTop { g with stack := rest }).pushFrame (.throwing q))) := by
  obtain ⟨mk, hnamed⟩ := Cond.code_named hcode
  obtain ⟨methM, cM, hmethM, -, -, -, -, -, -, hsigM⟩ := Cond.code_spec hnamed hcode
  have hstatic : methM.isStatic = true := Cond.static_spec hnamed hmethM hstat
  obtain ⟨kP, hkP, -⟩ := className_of_methodNamed hnamed
  have hinitP : kP.init = .initialized := Cond.initialized_spec (findClass_of_methodNamed hnamed) hkP hinit
  obtain ⟨vm₁, X₁, hstep₁⟩ := X.invokestatic hexec hown hlink hnamed hmethM hstatic hkP hinitP hy (g := g) hg (argsL := argsL) (rest := rest) (hlen _ hsigM) hstack hdg
  rcases hK m meth c ⟨T.setVm vm₁, locs, cells, slots⟩ { g with stack := rest } (.invokestatic index) mk argsL.toArray X₁ hg hsize hdg hW (X₁.named hnamed) (hpre vm₁ X₁.warmed) with ⟨v, B, X', hpost, hsteps⟩ | ⟨q, B, X', hpost, hsteps⟩
  · exact Or.inl ⟨v, vm₁, B, X₁.warmed, X', hpost, fun target h => hstep₁ _ fun acts => by rw [doInvoke_state]; exact hsteps.trans h⟩
  · exact Or.inr ⟨q, vm₁, B, X₁.warmed, X', hpost, hstep₁ _ fun acts => by rw [doInvoke_state]; exact hsteps⟩
end Calls
theorem vx_cls {s : State} {T : State} {vm₁ : Vm} {E : String} {k : ClassId} (hW : s.WarmedH vm₁) (h : (T.setVm vm₁).vm.findClass E = some k) : s.vm.findClass E = some k := by
  have h1 : vm₁.findClass E = some k := h
  rw [hW.alike.findClass] at h1
  exact h1
/-- the method's frame g, with q thrown over it -/
def vx_W (p : Program) (l : Launch) (e : Env) (R : Room) (s : State) (m : MethodId) (args : Array Value) (below : List Frame) (meth : Method) (c : Code) (H : Heap) (locs : List Loc) (cells slots : Nat) (Q : State → Prop) (g : JFrame) (q : Addr) : Prop :=
  ∀ T : State, T.heap = H → Stand p l e R s m args below meth c T locs cells slots → ∃ t, Steps p.tables e below ((T.setTop g).pushFrame (.throwing q)) t ∧ Q t
def vx_Run (p : Program) (l : Launch) (e : Env) (R : Room) (s : State) (m : MethodId) (args : Array Value) (below : List Frame) (meth : Method) (c : Code) (H : Heap) (locs : List Loc) (cells slots mc ms : Nat) (g : JFrame) (rest : List Value) (Qa : State → Outcome → State → Prop) (XC : String → State → State → Prop) (free : Addr → Prop) : Prop :=
  ∀ T : State, T.heap = H → Stand p l e R s m args below meth c T locs cells slots →
    (∃ (v : Option Value) (st₀ t T' : State) (L : List Loc), st₀.heap = H ∧ Stand p l e R s m args below meth c T' (locs ++ L) (cells + mc) (slots + ms) ∧ (∀ q ∈ L, free q.base) ∧ T'.heap = t.heap ∧ T'.vm = t.vm ∧ Qa st₀ (.returned v) t ∧
      Goes p e below T g T' { g with pc := g.pc + 3, stack := v.toList ++ rest }) ∨
    (∃ (q : Addr) (st₀ t T' : State) (L : List Loc) (E : String) (ce : Cell), st₀.heap = H ∧ Stand p l e R s m args below meth c T' (locs ++ L) (cells + mc) (slots + ms) ∧ (∀ z ∈ L, free z.base) ∧ T'.heap = t.heap ∧ T'.vm = t.vm ∧ XC E st₀ t ∧ t.heap[q]? = some ce ∧ ce.vm = .none ∧ s.vm.findClass E = some ce.cls ∧
      Steps p.tables e below (T.setTop g) ((T'.setTop { g with stack := rest }).pushFrame (.throwing q)))
def vx_X {S : Type} (px : S → Prop) (B : String → S → State → Prop) (A : Nat → Prop) : String → State → State → Prop := fun E st t => ∃ u : S, px u ∧ B E u t ∧ va_F A st t
section Runs
variable {p : Program} {l : Launch} {e : Env} {R : Room} {s : State} {m : MethodId} {args : Array Value} {below : List Frame} {meth : Method} {c : Code} {H : Heap} {locs : List Loc} {cells slots : Nat}
variable {y : MethodName} {bytes cc : ByteArray} {maxL nL mc ms n index : Nat} {ret : Option FieldType} {ws : List Cond} {rm : Room} {Pc : Array Value → State → Prop} {Qc : Array Value → State → Outcome → State → Prop} {XC : String → State → State → Prop} {free : Addr → Prop} {Ts : List Cond} {own C : String} {b : Addr} {As rest : List Value} {g : JFrame}
theorem vx_callBack (cb : CallB R s args own index y bytes maxL ret ws rm mc ms n) (hM : vx_Met l y ws rm Pc Qc XC mc ms free) (hbl : FrameBlind Pc) : vx_Back l R p e below s args y 3 8 (PreOf R mc ms Pc) (PostOf Qc mc ms free) (vx_Post XC mc ms free) := by
  obtain ⟨hrc, hrs, hfr, hlo, hws, hcw, -, hini, -⟩ := cb
  exact vx_back (bytes := bytes) (maxL := maxL) (ret := ret) hM hbl hrc hrs hfr hlo hws hcw (fun a' U hW => word_at hW (Or.inl (by first | rfl | simp [Cond.onTables, Cond.keeps, Cond.steady])) hini)
theorem vx_runV (S : CallFix p m c cc nL s args Ts own) (hM : vx_Met l y ws rm Pc Qc XC mc ms free) (cw : CallW R s args own C index y bytes maxL ret ws rm mc ms n) (hp : PreV s H C b Pc As)
    (hg : g.method = m) (hn : As.length = n) (hsize : g.locals.size = nL) (hstack : g.stack = As.reverse ++ .ref b :: rest) (hW : 2 * g.monitorRoom + (rest.map fun v => v.category).sum ≤ 8) (hdg : decode cc g.pc = .ok (.invokevirtual index, 3)) (hf : cells + mc ≤ R.cells ∧ slots + ms ≤ R.slots) :
    vx_Run p l e R s m args below meth c H locs cells slots mc ms g rest (Qc (Value.ref b :: As).toArray) XC free := by
  have hK : vx_Back l R p e below s args y 3 8 (PreOf R mc ms Pc) (PostOf Qc mc ms free) (vx_Post XC mc ms free) := vx_callBack cw.1 hM hp.1
  obtain ⟨⟨-, -, -, -, -, -, hcode, -, hy, hlen, hl⟩, hin, hse⟩ := cw
  obtain ⟨hx, hb, hml, ho, -⟩ := S
  obtain ⟨-, ⟨cellB, hcB, hoB, hclB⟩, hPc⟩ := hp
  intro T hT X
  rcases vx_callV X hx (C := C) (bytes := bytes) (maxL := maxL) (ret := ret) ho hl hin hse hcode hy hK (by rw [hT]; exact hcB) hoB hclB hg (hsize.trans hml.symm) (argsL := As) (rest := rest) (fun sig h => hn.trans (hlen sig h)) hstack hW (by rw [hb]; exact hdg)
    (fun vm₁ hW₁ => ⟨hf.1, hf.2, hPc (T.setVm vm₁) hT hW₁⟩) with ⟨v, vm₁, ⟨U', l2, c2, s2⟩, hW₁, X', ⟨g', mk, t, L, e1, e2, hq, h1, hL, h2, h3⟩, st⟩ | ⟨q, vm₁, ⟨U', l2, c2, s2⟩, hW₁, X', ⟨g', mk, t, L, E, ce, e1, e2, hq, hce, hcv, hcl, h1, hL, h2, h3⟩, st⟩
  · dsimp only [Pt.U, Pt.locs, Pt.cells, Pt.slots] at X' e1 e2 h1 h2 h3 st
    subst h1; subst h2; subst h3
    exact Or.inl ⟨v, (T.setVm vm₁).calling g' mk (Value.ref b :: As).toArray, t, U', L, hT, X', hL, e1, e2, hq, st⟩
  · dsimp only [Pt.U, Pt.locs, Pt.cells, Pt.slots] at X' e1 e2 h1 h2 h3 st hcl
    subst h1; subst h2; subst h3
    exact Or.inr ⟨q, (T.setVm vm₁).calling g' mk (Value.ref b :: As).toArray, t, U', L, E, ce, hT, X', hL, e1, e2, hq, hce, hcv, vx_cls hW₁ hcl, st⟩
theorem vx_runS (S : CallFix p m c cc nL s args Ts own) (hM : vx_Met l y ws rm Pc Qc XC mc ms free) (cw : CallB R s args own index y bytes maxL ret ws rm mc ms n ∧ (Cond.static y).before args s = true) (hp : PreS s H Pc As)
    (hg : g.method = m) (hn : As.length = n) (hsize : g.locals.size = nL) (hstack : g.stack = As.reverse ++ rest) (hW : 2 * g.monitorRoom + (rest.map fun v => v.category).sum ≤ 8) (hdg : decode cc g.pc = .ok (.invokestatic index, 3)) (hf : cells + mc ≤ R.cells ∧ slots + ms ≤ R.slots) :
    vx_Run p l e R s m args below meth c H locs cells slots mc ms g rest (Qc As.toArray) XC free := by
  have hK : vx_Back l R p e below s args y 3 8 (PreOf R mc ms Pc) (PostOf Qc mc ms free) (vx_Post XC mc ms free) := vx_callBack cw.1 hM hp.1
  obtain ⟨⟨-, -, -, -, -, -, hcode, hini, hy, hlen, hl⟩, hstt⟩ := cw
  obtain ⟨hx, hb, hml, ho, -⟩ := S
  intro T hT X
  rcases vx_callS X hx (bytes := bytes) (maxL := maxL) (ret := ret) ho hl hstt hini hcode hy hK hg (hsize.trans hml.symm) (argsL := As) (rest := rest) (fun sig h => hn.trans (hlen sig h)) hstack hW (by rw [hb]; exact hdg)
    (fun vm₁ hW₁ => ⟨hf.1, hf.2, hp.2 (T.setVm vm₁) hT hW₁⟩) with ⟨v, vm₁, ⟨U', l2, c2, s2⟩, hW₁, X', ⟨g', mk, t, L, e1, e2, hq, h1, hL, h2, h3⟩, st⟩ | ⟨q, vm₁, ⟨U', l2, c2, s2⟩, hW₁, X', ⟨g', mk, t, L, E, ce, e1, e2, hq, hce, hcv, hcl, h1, hL, h2, h3⟩, st⟩
  · dsimp only [Pt.U, Pt.locs, Pt.cells, Pt.slots] at X' e1 e2 h1 h2 h3 st
    subst h1; subst h2; subst h3
    exact Or.inl ⟨v, (T.setVm vm₁).calling g' mk As.toArray, t, U', L, hT, X', hL, e1, e2, hq, st⟩
  · dsimp only [Pt.U, Pt.locs, Pt.cells, Pt.slots] at X' e1 e2 h1 h2 h3 st hcl
    subst h1; subst h2; subst h3
    exact Or.inr ⟨q, (T.setVm vm₁).calling g' mk As.toArray, t, U', L, E, ce, hT, X', hL, e1, e2, hq, hce, hcv, vx_cls hW₁ hcl, st⟩
end Runs
section Rows
variable {p : Program} {l : Launch} {e : Env} {R : Room} {s : State} {m : MethodId} {args : Array Value} {below : List Frame} {meth : Method} {c : Code} {H : Heap} {locs : List Loc} {cells slots : Nat} {Q : State → Prop}
variable {mc ms : Nat} {free : Addr → Prop} {A0 A1 : Nat → Prop} {H0 : Heap} {a : Array Value} {pc : Nat} {ls : Array Slot} {st0 rest : List Value}
theorem vx_keep {st₀ t T' : State} {L : List Loc} (h0 : st₀.heap = H) (e1 : T'.heap = t.heap) (hS : va_S A0 H0 H locs) (hA : ∀ q, q < H.size → A1 q → A0 q) (hf : ∀ q, free q → A0 q) (hL : ∀ q ∈ L, free q.base) (hF : va_F A1 st₀ t) :
    H.size ≤ T'.heap.size ∧ (∀ q : Nat, q < H.size → ¬ A1 q → T'.heap[q]? = H[q]?) ∧ va_S A0 H0 T'.heap (locs ++ L) := by
  obtain ⟨hz, hk⟩ := hF
  rw [h0] at hz hk
  exact ⟨by rw [e1]; exact hz, fun q h1 h2 => by rw [e1]; exact hk q h1 h2,
    ⟨Nat.le_trans hS.1 (by rw [e1]; exact hz), fun q h1 h2 => by rw [e1, hk q (Nat.lt_of_lt_of_le h1 hS.1) (fun z => h2 (hA q (Nat.lt_of_lt_of_le h1 hS.1) z))]; exact hS.2.1 q h1 h2, fun q hq => by
      rcases List.mem_append.mp hq with h | h
      · exact hS.2.2 q h
      · exact hf _ (hL q h)⟩⟩
theorem vx_calli {S SX : Type} {post : Int32 → S → Prop} {px : SX → Prop} {B : S → State → Prop} {BX : String → SX → State → Prop} {AX : Nat → Prop} (hr : vx_Run p l e R s m args below meth c H locs cells slots mc ms (F0 m pc ls st0) rest (va_Qi post B A1 a) (vx_X px BX AX) free) (hS : va_S A0 H0 H locs) (hA : ∀ q, q < H.size → A1 q → A0 q) (hf : ∀ q, free q → A0 q) (hAX : ∀ q, q < H.size → AX q → A0 q)
    (kx : ∀ (E : String) (ce : Cell) (q9 : Addr) (u : SX) (t : State) (H1 : Heap) (locs1 : List Loc), t.heap = H1 → s.vm.Alike t.vm → px u → BX E u t → H.size ≤ H1.size → (∀ q : Nat, q < H.size → ¬ AX q → H1[q]? = H[q]?) → va_S A0 H0 H1 locs1 → H1[q9]? = some ce → ce.vm = .none → s.vm.findClass E = some ce.cls → vx_W p l e R s m args below meth c H1 locs1 (cells + mc) (slots + ms) Q (F0 m pc ls rest) q9)
    (kk : ∀ (r : Int32) (u : S) (t : State) (H1 : Heap) (locs1 : List Loc), t.heap = H1 → s.vm.Alike t.vm → post r u → B u t → H.size ≤ H1.size → (∀ q : Nat, q < H.size → ¬ A1 q → H1[q]? = H[q]?) → va_S A0 H0 H1 locs1 → W p l e R s m args below meth c H1 locs1 (cells + mc) (slots + ms) Q (F0 m (pc + 3) ls (.int r :: rest))) : W p l e R s m args below meth c H locs cells slots Q (F0 m pc ls st0) := by
  intro T hT X
  rcases hr T hT X with ⟨v, st₀, t, T', L, h0, X', hL, e1, e2, ⟨⟨r, u, hv, hp, hb⟩, hF⟩, st⟩ | ⟨q, st₀, t, T', L, E, ce, h0, X', hL, e1, e2, ⟨u, hp, hb, hF⟩, hce, hcv, hcl, st⟩
  · cases hv
    obtain ⟨k1, k2, k3⟩ := vx_keep h0 e1 hS hA hf hL hF
    obtain ⟨t2, a1, b1⟩ := kk r u t T'.heap (locs ++ L) e1.symm (by rw [← e2]; exact X'.warmed.alike) hp hb k1 k2 k3 T' rfl X'
    exact ⟨t2, st t2 a1, b1⟩
  · obtain ⟨k1, k2, k3⟩ := vx_keep h0 e1 hS hAX hf hL hF
    obtain ⟨t2, a1, b1⟩ := kx E ce q u t T'.heap (locs ++ L) e1.symm (by rw [← e2]; exact X'.warmed.alike) hp hb k1 k2 k3 (by rw [e1]; exact hce) hcv hcl T' rfl X'
    exact ⟨t2, st.trans a1, b1⟩
theorem vx_calll {S SX : Type} {post : Int64 → S → Prop} {px : SX → Prop} {B : S → State → Prop} {BX : String → SX → State → Prop} {AX : Nat → Prop} (hr : vx_Run p l e R s m args below meth c H locs cells slots mc ms (F0 m pc ls st0) rest (va_Ql post B A1 a) (vx_X px BX AX) free) (hS : va_S A0 H0 H locs) (hA : ∀ q, q < H.size → A1 q → A0 q) (hf : ∀ q, free q → A0 q) (hAX : ∀ q, q < H.size → AX q → A0 q)
    (kx : ∀ (E : String) (ce : Cell) (q9 : Addr) (u : SX) (t : State) (H1 : Heap) (locs1 : List Loc), t.heap = H1 → s.vm.Alike t.vm → px u → BX E u t → H.size ≤ H1.size → (∀ q : Nat, q < H.size → ¬ AX q → H1[q]? = H[q]?) → va_S A0 H0 H1 locs1 → H1[q9]? = some ce → ce.vm = .none → s.vm.findClass E = some ce.cls → vx_W p l e R s m args below meth c H1 locs1 (cells + mc) (slots + ms) Q (F0 m pc ls rest) q9)
    (kk : ∀ (r : Int64) (u : S) (t : State) (H1 : Heap) (locs1 : List Loc), t.heap = H1 → s.vm.Alike t.vm → post r u → B u t → H.size ≤ H1.size → (∀ q : Nat, q < H.size → ¬ A1 q → H1[q]? = H[q]?) → va_S A0 H0 H1 locs1 → W p l e R s m args below meth c H1 locs1 (cells + mc) (slots + ms) Q (F0 m (pc + 3) ls (.long r :: rest))) : W p l e R s m args below meth c H locs cells slots Q (F0 m pc ls st0) := by
  intro T hT X
  rcases hr T hT X with ⟨v, st₀, t, T', L, h0, X', hL, e1, e2, ⟨⟨r, u, hv, hp, hb⟩, hF⟩, st⟩ | ⟨q, st₀, t, T', L, E, ce, h0, X', hL, e1, e2, ⟨u, hp, hb, hF⟩, hce, hcv, hcl, st⟩
  · cases hv
    obtain ⟨k1, k2, k3⟩ := vx_keep h0 e1 hS hA hf hL hF
    obtain ⟨t2, a1, b1⟩ := kk r u t T'.heap (locs ++ L) e1.symm (by rw [← e2]; exact X'.warmed.alike) hp hb k1 k2 k3 T' rfl X'
    exact ⟨t2, st t2 a1, b1⟩
  · obtain ⟨k1, k2, k3⟩ := vx_keep h0 e1 hS hAX hf hL hF
    obtain ⟨t2, a1, b1⟩ := kx E ce q u t T'.heap (locs ++ L) e1.symm (by rw [← e2]; exact X'.warmed.alike) hp hb k1 k2 k3 (by rw [e1]; exact hce) hcv hcl T' rfl X'
    exact ⟨t2, st.trans a1, b1⟩
theorem vx_callf {S SX : Type} {post : UInt32 → S → Prop} {px : SX → Prop} {B : S → State → Prop} {BX : String → SX → State → Prop} {AX : Nat → Prop} (hr : vx_Run p l e R s m args below meth c H locs cells slots mc ms (F0 m pc ls st0) rest (va_Qf post B A1 a) (vx_X px BX AX) free) (hS : va_S A0 H0 H locs) (hA : ∀ q, q < H.size → A1 q → A0 q) (hf : ∀ q, free q → A0 q) (hAX : ∀ q, q < H.size → AX q → A0 q)
    (kx : ∀ (E : String) (ce : Cell) (q9 : Addr) (u : SX) (t : State) (H1 : Heap) (locs1 : List Loc), t.heap = H1 → s.vm.Alike t.vm → px u → BX E u t → H.size ≤ H1.size → (∀ q : Nat, q < H.size → ¬ AX q → H1[q]? = H[q]?) → va_S A0 H0 H1 locs1 → H1[q9]? = some ce → ce.vm = .none → s.vm.findClass E = some ce.cls → vx_W p l e R s m args below meth c H1 locs1 (cells + mc) (slots + ms) Q (F0 m pc ls rest) q9)
    (kk : ∀ (r : UInt32) (u : S) (t : State) (H1 : Heap) (locs1 : List Loc), t.heap = H1 → s.vm.Alike t.vm → post r u → B u t → H.size ≤ H1.size → (∀ q : Nat, q < H.size → ¬ A1 q → H1[q]? = H[q]?) → va_S A0 H0 H1 locs1 → W p l e R s m args below meth c H1 locs1 (cells + mc) (slots + ms) Q (F0 m (pc + 3) ls (.float r :: rest))) : W p l e R s m args below meth c H locs cells slots Q (F0 m pc ls st0) := by
  intro T hT X
  rcases hr T hT X with ⟨v, st₀, t, T', L, h0, X', hL, e1, e2, ⟨⟨r, u, hv, hp, hb⟩, hF⟩, st⟩ | ⟨q, st₀, t, T', L, E, ce, h0, X', hL, e1, e2, ⟨u, hp, hb, hF⟩, hce, hcv, hcl, st⟩
  · cases hv
    obtain ⟨k1, k2, k3⟩ := vx_keep h0 e1 hS hA hf hL hF
    obtain ⟨t2, a1, b1⟩ := kk r u t T'.heap (locs ++ L) e1.symm (by rw [← e2]; exact X'.warmed.alike) hp hb k1 k2 k3 T' rfl X'
    exact ⟨t2, st t2 a1, b1⟩
  · obtain ⟨k1, k2, k3⟩ := vx_keep h0 e1 hS hAX hf hL hF
    obtain ⟨t2, a1, b1⟩ := kx E ce q u t T'.heap (locs ++ L) e1.symm (by rw [← e2]; exact X'.warmed.alike) hp hb k1 k2 k3 (by rw [e1]; exact hce) hcv hcl T' rfl X'
    exact ⟨t2, st.trans a1, b1⟩
theorem vx_calld {S SX : Type} {post : UInt64 → S → Prop} {px : SX → Prop} {B : S → State → Prop} {BX : String → SX → State → Prop} {AX : Nat → Prop} (hr : vx_Run p l e R s m args below meth c H locs cells slots mc ms (F0 m pc ls st0) rest (va_Qd post B A1 a) (vx_X px BX AX) free) (hS : va_S A0 H0 H locs) (hA : ∀ q, q < H.size → A1 q → A0 q) (hf : ∀ q, free q → A0 q) (hAX : ∀ q, q < H.size → AX q → A0 q)
    (kx : ∀ (E : String) (ce : Cell) (q9 : Addr) (u : SX) (t : State) (H1 : Heap) (locs1 : List Loc), t.heap = H1 → s.vm.Alike t.vm → px u → BX E u t → H.size ≤ H1.size → (∀ q : Nat, q < H.size → ¬ AX q → H1[q]? = H[q]?) → va_S A0 H0 H1 locs1 → H1[q9]? = some ce → ce.vm = .none → s.vm.findClass E = some ce.cls → vx_W p l e R s m args below meth c H1 locs1 (cells + mc) (slots + ms) Q (F0 m pc ls rest) q9)
    (kk : ∀ (r : UInt64) (u : S) (t : State) (H1 : Heap) (locs1 : List Loc), t.heap = H1 → s.vm.Alike t.vm → post r u → B u t → H.size ≤ H1.size → (∀ q : Nat, q < H.size → ¬ A1 q → H1[q]? = H[q]?) → va_S A0 H0 H1 locs1 → W p l e R s m args below meth c H1 locs1 (cells + mc) (slots + ms) Q (F0 m (pc + 3) ls (.double r :: rest))) : W p l e R s m args below meth c H locs cells slots Q (F0 m pc ls st0) := by
  intro T hT X
  rcases hr T hT X with ⟨v, st₀, t, T', L, h0, X', hL, e1, e2, ⟨⟨r, u, hv, hp, hb⟩, hF⟩, st⟩ | ⟨q, st₀, t, T', L, E, ce, h0, X', hL, e1, e2, ⟨u, hp, hb, hF⟩, hce, hcv, hcl, st⟩
  · cases hv
    obtain ⟨k1, k2, k3⟩ := vx_keep h0 e1 hS hA hf hL hF
    obtain ⟨t2, a1, b1⟩ := kk r u t T'.heap (locs ++ L) e1.symm (by rw [← e2]; exact X'.warmed.alike) hp hb k1 k2 k3 T' rfl X'
    exact ⟨t2, st t2 a1, b1⟩
  · obtain ⟨k1, k2, k3⟩ := vx_keep h0 e1 hS hAX hf hL hF
    obtain ⟨t2, a1, b1⟩ := kx E ce q u t T'.heap (locs ++ L) e1.symm (by rw [← e2]; exact X'.warmed.alike) hp hb k1 k2 k3 (by rw [e1]; exact hce) hcv hcl T' rfl X'
    exact ⟨t2, st.trans a1, b1⟩
theorem vx_callv {S SX : Type} {post : S → Prop} {px : SX → Prop} {B : S → State → Prop} {BX : String → SX → State → Prop} {AX : Nat → Prop} (hr : vx_Run p l e R s m args below meth c H locs cells slots mc ms (F0 m pc ls st0) rest (va_Qv post B A1 a) (vx_X px BX AX) free) (hS : va_S A0 H0 H locs) (hA : ∀ q, q < H.size → A1 q → A0 q) (hf : ∀ q, free q → A0 q) (hAX : ∀ q, q < H.size → AX q → A0 q)
    (kx : ∀ (E : String) (ce : Cell) (q9 : Addr) (u : SX) (t : State) (H1 : Heap) (locs1 : List Loc), t.heap = H1 → s.vm.Alike t.vm → px u → BX E u t → H.size ≤ H1.size → (∀ q : Nat, q < H.size → ¬ AX q → H1[q]? = H[q]?) → va_S A0 H0 H1 locs1 → H1[q9]? = some ce → ce.vm = .none → s.vm.findClass E = some ce.cls → vx_W p l e R s m args below meth c H1 locs1 (cells + mc) (slots + ms) Q (F0 m pc ls rest) q9)
    (kk : ∀ (u : S) (t : State) (H1 : Heap) (locs1 : List Loc), t.heap = H1 → s.vm.Alike t.vm → post u → B u t → H.size ≤ H1.size → (∀ q : Nat, q < H.size → ¬ A1 q → H1[q]? = H[q]?) → va_S A0 H0 H1 locs1 → W p l e R s m args below meth c H1 locs1 (cells + mc) (slots + ms) Q (F0 m (pc + 3) ls (rest))) : W p l e R s m args below meth c H locs cells slots Q (F0 m pc ls st0) := by
  intro T hT X
  rcases hr T hT X with ⟨v, st₀, t, T', L, h0, X', hL, e1, e2, ⟨⟨u, hv, hp, hb⟩, hF⟩, st⟩ | ⟨q, st₀, t, T', L, E, ce, h0, X', hL, e1, e2, ⟨u, hp, hb, hF⟩, hce, hcv, hcl, st⟩
  · cases hv
    obtain ⟨k1, k2, k3⟩ := vx_keep h0 e1 hS hA hf hL hF
    obtain ⟨t2, a1, b1⟩ := kk u t T'.heap (locs ++ L) e1.symm (by rw [← e2]; exact X'.warmed.alike) hp hb k1 k2 k3 T' rfl X'
    exact ⟨t2, st t2 a1, b1⟩
  · obtain ⟨k1, k2, k3⟩ := vx_keep h0 e1 hS hAX hf hL hF
    obtain ⟨t2, a1, b1⟩ := kx E ce q u t T'.heap (locs ++ L) e1.symm (by rw [← e2]; exact X'.warmed.alike) hp hb k1 k2 k3 (by rw [e1]; exact hce) hcv hcl T' rfl X'
    exact ⟨t2, st.trans a1, b1⟩
end Rows
section Ends
variable {p : Program} {l : Launch} {e : Env} {R : Room} {s : State} {m : MethodId} {args : Array Value} {below : List Frame} {meth : Method} {c : Code} {H : Heap} {locs : List Loc} {cells slots : Nat} {Q : State → Prop}
variable {mc ms : Nat} {free : Addr → Prop} {A0 A1 : Nat → Prop} {H0 : Heap} {a : Array Value} {ls : Array Slot} {st0 rest : List Value}
variable {Qc : Array Value → State → Outcome → State → Prop} {XC : String → State → State → Prop}
/-- what a body that may throw owes at its end -/
def vx_MQ (below : List Frame) (Qc : Array Value → State → Outcome → State → Prop) (XC : String → State → State → Prop) (a : Array Value) (s : State) (mc ms : Nat) (free : Addr → Prop) : State → Prop := fun t =>
  ∃ o, t.status = .running ∧ Ended t below o ∧ vx_Q Qc XC mc ms free a s o t
theorem vx_ret {g : JFrame} {mc ms : Nat} (k : W p l e R s m args below meth c H locs cells slots (MQ below Qc args s mc ms free) g) : W p l e R s m args below meth c H locs cells slots (vx_MQ below Qc XC args s mc ms free) g := by
  intro T hT X
  obtain ⟨t, a1, o, b1, b2, b3, b4⟩ := k T hT X
  exact ⟨t, a1, o, b1, b2, Or.inl ⟨b3, b4⟩⟩
/-- not caught here: it goes on to the caller -/
theorem vx_widen {g : JFrame} {q : Addr} {k n : Nat} (h1 : cells ≤ k) (h2 : slots ≤ n) (kk : vx_W p l e R s m args below meth c H locs k n Q g q) : vx_W p l e R s m args below meth c H locs cells slots Q g q := fun T hT X => kk T hT (stand_widen X h1 h2)
theorem vx_out {pc : Nat} {E : String} {ce : Cell} {q : Addr} {mc ms : Nat} (hout : ∀ x ∈ c.exceptionTable.toList, covers x pc = false) (hlocks : meth.locks = false) (hcell : H[q]? = some ce) (hv : ce.vm = .none) (hcl : s.vm.findClass E = some ce.cls)
    (hx : ∀ t : State, t.heap = H → s.vm.Alike t.vm → XC E s t) (hf : ∀ z ∈ locs, free z.base) (hc : cells ≤ mc) (hs : slots ≤ ms) :
    vx_W p l e R s m args below meth c H locs cells slots (vx_MQ below Qc XC args s mc ms free) (F0 m pc ls rest) q := by
  intro T hT X
  obtain ⟨st1, hrun, hend, hW, hsm⟩ := X.leaveThrown q (g := F0 m pc ls rest) rfl rfl rfl hout hlocks
  have hcell9 : (T.setFrames (.throwing q :: below)).heap[q]? = some ce := by
    show T.heap[q]? = some ce
    rw [hT]; exact hcell
  exact ⟨_, st1, .threw q, hrun, hend, Or.inr ⟨q, rfl, E, ce, locs, hx _ hT hW.alike, hcell9, hv, hcl, hW, hsm.mono hc hs, hf⟩⟩
theorem vx_frame {U : State} {k n : Nat} (h : s.sameButNew ({ U with vm := s.vm } : State) locs k n) : s.heap.size ≤ U.heap.size ∧ ∀ q : Nat, q < s.heap.size → (∀ z ∈ locs, z.base ≠ q) → U.heap[q]? = s.heap[q]? := by
  obtain ⟨-, h2, -, -, -, h6⟩ := h
  refine ⟨h2, fun q hq hz => ?_⟩
  obtain ⟨c9, e1, e2, e3, e4⟩ := h6 q _ (Array.getElem?_eq_getElem hq)
  have hs : c9.slots = (s.heap[q]).slots := Array.ext_getElem? fun i => e4 i fun hm => hz _ hm rfl
  have h9 : c9 = s.heap[q] := by
    rw [hs] at e2
    exact e2
  have e5 : U.heap[q]? = some c9 := e1
  rw [e5, h9, Array.getElem?_eq_getElem hq]
/-- the words of a throw but the four that speak of the heap -/
def vx_no (w : Cond) : Bool := decide (w ≠ .isRef (.static Bundle.tN "UNASSIGNED_STACK" Bundle.steD)) && decide (w ≠ .isRef (.static Bundle.tN "SUPPRESSED_SENTINEL" Bundle.listD)) && decide (w ≠ .laysStatic Bundle.tN "UNASSIGNED_STACK" Bundle.steD) && decide (w ≠ .laysStatic Bundle.tN "SUPPRESSED_SENTINEL" Bundle.listD)
def vx_at0 (own : String) (ic : Nat) (X : String) (names : List String) : List Cond := (Bundle.ownAtoms0 own ic X names).filter vx_no
def vx_atS (own : String) (ic : Nat) (X : String) (names : List String) : List Cond := (Bundle.ownAtoms own ic X names).filter vx_no
/-- a word that the tables alone decide, or a good one -/
def vx_ot (w : Cond) : Bool := w.onTables || goodWord w
theorem vx_ot_at {args a' : Array Value} {s U : State} {w : Cond} (hW : s.WarmedH U.vm) (hvm : s.vm = U.vm) (hg : vx_ot w = true) (h : w.before args s = true) : w.before a' U = true := by
  simp only [vx_ot, Bool.or_eq_true] at hg
  rcases hg with hg | hg
  · exact va_tabs hg hvm h
  · exact word_at hW (good_of_word hg) h
/-- a list's words: the good ones out of the method's own list, the others by premises of their own -/
theorem vx_hat {args : Array Value} {s : State} {L B : List Cond} (h1 : ∀ w ∈ L.filter goodWord, w.before args s = true) (h2 : ∀ w ∈ L.filter (fun w => !goodWord w), w ∈ B) (h3 : ∀ w ∈ B, w.before args s = true) : ∀ w ∈ L, w.before args s = true := by
  intro w hw
  by_cases g : goodWord w = true
  · exact h1 w (List.mem_filter.mpr ⟨hw, g⟩)
  · refine h3 w (h2 w (List.mem_filter.mpr ⟨hw, ?_⟩))
    show (!goodWord w) = true
    cases hgw : goodWord w
    · rfl
    · exact absurd hgw g
theorem vx_c {args : Array Value} {s : State} {w : Cond} {B : List Cond} (h : w.before args s = true) (t : ∀ w ∈ B, w.before args s = true) : ∀ w' ∈ w :: B, w'.before args s = true := fun w' h' => (List.mem_cons.mp h').elim (fun e => by rw [e]; exact h) (t w')
theorem vx_n {args : Array Value} {s : State} : ∀ w ∈ ([] : List Cond), w.before args s = true := fun _ h => nomatch h
theorem vx_own {args : Array Value} {s : State} {L : List Cond} (h1 : ∀ w ∈ L.filter vx_no, w.before args s = true)
    (hU : (Cond.isRef (.static Bundle.tN "UNASSIGNED_STACK" Bundle.steD)).before args s = true) (hN : (Cond.isRef (.static Bundle.tN "SUPPRESSED_SENTINEL" Bundle.listD)).before args s = true)
    (lU : (Cond.laysStatic Bundle.tN "UNASSIGNED_STACK" Bundle.steD).before args s = true) (lN : (Cond.laysStatic Bundle.tN "SUPPRESSED_SENTINEL" Bundle.listD).before args s = true) : ∀ w ∈ L, w.before args s = true := by
  intro w hw
  by_cases e1 : w = .isRef (.static Bundle.tN "UNASSIGNED_STACK" Bundle.steD)
  · rw [e1]; exact hU
  · by_cases e2 : w = .isRef (.static Bundle.tN "SUPPRESSED_SENTINEL" Bundle.listD)
    · rw [e2]; exact hN
    · by_cases e3 : w = .laysStatic Bundle.tN "UNASSIGNED_STACK" Bundle.steD
      · rw [e3]; exact lU
      · by_cases e4 : w = .laysStatic Bundle.tN "SUPPRESSED_SENTINEL" Bundle.listD
        · rw [e4]; exact lN
        · exact h1 w (List.mem_filter.mpr ⟨hw, by unfold vx_no; rw [decide_eq_true e1, decide_eq_true e2, decide_eq_true e3, decide_eq_true e4]; rfl⟩)
/-- where a static field lies, its class's statics cell in H -/
def vx_L (C n d : String) (A : Nat → Prop) (U : State) (H : Heap) : Prop := ∃ (c : ClassId) (k : Class) (i : Nat) (f : Field) (a : Nat) (cell : Cell), U.vm.findClass C = some c ∧ U.fieldFound? C n d = some (c, k, i, f) ∧ f.isStatic = true ∧ k.statics = some a ∧ H[a]? = some cell ∧ cell.vm.isStatics = true ∧ cell.cls = c ∧ f.slot < cell.slots.size ∧ k.staticTypes[f.slot]? = some f.type ∧ ¬ A a
theorem vx_L.moved {C n d : String} {A : Nat → Prop} {u U : State} {H : Heap} (hvm : u.vm.Alike U.vm) (h : vx_L C n d A u H) : vx_L C n d A U H := by
  obtain ⟨c, k, i, f, a, cell, h1, h2, h3, h4, h5, h6, h7, h8, h9, h10⟩ := h
  obtain ⟨k', hi', he⟩ := State.fieldFound?_setVm hvm h2
  exact ⟨c, k', i, f, a, cell, by rw [hvm.findClass]; exact h1, hi', h3, by rw [he]; exact h4, h5, h6, h7, h8, by rw [he]; exact h9, h10⟩
theorem vx_L.kept {C n d : String} {A : Nat → Prop} {U : State} {H H1 : Heap} (h : vx_L C n d A U H) (hq : ∀ a : Nat, a < H.size → ¬ A a → H1[a]? = H[a]?) : vx_L C n d A U H1 := by
  obtain ⟨c, k, i, f, a, cell, h1, h2, h3, h4, h5, h6, h7, h8, h9, h10⟩ := h
  exact ⟨c, k, i, f, a, cell, h1, h2, h3, h4, by rw [hq a (Array.getElem?_eq_some_iff.mp h5).1 h10]; exact h5, h6, h7, h8, h9, h10⟩
theorem vx_L.narrow {C n d : String} {A B : Nat → Prop} {U : State} {H : Heap} (h : vx_L C n d A U H) (hAB : ∀ q, B q → A q) : vx_L C n d B U H := by
  obtain ⟨c, k, i, f, a, cell, h1, h2, h3, h4, h5, h6, h7, h8, h9, h10⟩ := h
  exact ⟨c, k, i, f, a, cell, h1, h2, h3, h4, h5, h6, h7, h8, h9, fun z => h10 (hAB _ z)⟩
theorem vx_L.word {C n d : String} {A : Nat → Prop} {s : State} {args : Array Value} (h : vx_L C n d A s s.heap) : (Cond.laysStatic C n d).before args s = true := by
  obtain ⟨c, k, i, f, a, cell, h1, h2, h3, h4, h5, h6, h7, h8, h9, -⟩ := h
  show (Cond.laysStatic C n d).holds args s none s [] = true
  exact Cond.laysStatic_of h1 h2 h3 h4 h5 h6 h7 h8 h9
/-- .. and what it holds: null or some reference -/
def vx_Zq (C n d : String) (A : Nat → Prop) (U : State) (H : Heap) : Prop := va_Zq C n d A U H ∧ vx_L C n d A U H
theorem vx_Zq.moved {C n d : String} {A : Nat → Prop} {u U : State} {H : Heap} (hvm : u.vm.Alike U.vm) (h : vx_Zq C n d A u H) : vx_Zq C n d A U H := ⟨va_Zq.moved hvm h.1, vx_L.moved hvm h.2⟩
theorem vx_Zq.kept {C n d : String} {A : Nat → Prop} {U : State} {H H1 : Heap} (h : vx_Zq C n d A U H) (hq : ∀ a : Nat, a < H.size → ¬ A a → H1[a]? = H[a]?) : vx_Zq C n d A U H1 := ⟨va_Zq.kept h.1 hq, vx_L.kept h.2 hq⟩
theorem vx_Zq.narrow {C n d : String} {A B : Nat → Prop} {U : State} {H : Heap} (h : vx_Zq C n d A U H) (hAB : ∀ q, B q → A q) : vx_Zq C n d B U H := ⟨va_Zq.narrow h.1 hAB, vx_L.narrow h.2 hAB⟩
theorem vx_Zqof {args : Array Value} {s : State} {C n d : String} {A : Nat → Prop} (hl : (Cond.laysStatic C n d).before args s = true) (hini : (Cond.initialized C).before args s = true) (h : (Cond.isRef (.static C n d)).before args s = true) (hA : ∀ a : Nat, a < s.heap.size → ¬ A a) : vx_Zq C n d A s s.heap := by
  refine ⟨va_Zqof hl hini h hA, ?_⟩
  obtain ⟨c, k, i, f, a, cell, h1, h2, h3, h4, h5, h6, h7, h8, h9⟩ := Cond.laysStatic_spec hl
  exact ⟨c, k, i, f, a, cell, h1, h2, h3, h4, h5, h6, h7, h8, h9, hA a (Array.getElem?_eq_some_iff.mp h5).1⟩
theorem vx_isRef {C n d : String} {v : Value} {A : Nat → Prop} {s : State} {args : Array Value} (h : va_Z C n d v A s s.heap) (hv : v.isRef = true) : (Cond.isRef (.static C n d)).before args s = true := by
  obtain ⟨cf, kf, fi, f, a, cell, h1, h2, h3, h4, h5, h6, h7, -⟩ := h
  have he : (Term.static C n d).eval args s none [] s = some v := by
    simp [Term.eval, State.fieldNamed?, h1, h2, h4, h5, h6, h7]
  simp only [Cond.before, Cond.holds, Cond.value, he]
  cases v <;> simp_all [Value.isRef]
theorem vx_isRefq {C n d : String} {A : Nat → Prop} {s : State} {args : Array Value} (h : va_Zq C n d A s s.heap) : (Cond.isRef (.static C n d)).before args s = true := by
  rcases h with h | ⟨t, h⟩
  · exact vx_isRef h rfl
  · exact vx_isRef h rfl
/-- the same frame, seen from here: as if the method were called anew in this heap -/
theorem vx_rebase {T : State} (X : Stand p l e R s m args below meth c T locs cells slots) {R' : Room} (hf : R'.frames ≤ R.frames) (hl : R'.locals ≤ R.locals) (hc : cells + R'.cells ≤ R.cells) (hs : slots + R'.slots ≤ R.slots) :
    Stand p l e R' ((T.setVm s.vm).setFrames (.invoking m args :: below)) m args below meth c T [] 0 0 := by
  have htop : (T.setVm s.vm).topJava?.isSome := X.here.top
  have hF : ((T.setVm s.vm).setFrames (.invoking m args :: below)).frames = .invoking m args :: below := State.frames_setFrames _ (State.cur_lt_of_top htop)
  obtain ⟨g₀, hg0⟩ := Option.isSome_iff_exists.mp htop
  obtain ⟨r, hr⟩ := State.topJava?_eq_some.mp hg0
  have hl9 : e.platform.stackLimits (T.setVm s.vm).me = e.platform.stackLimits s.me := X.limits
  have hb9 : (T.setVm s.vm).me.stackBytes = s.me.stackBytes := X.bytes
  refine ⟨X.admits, X.cas, X.clock, hF, ?_, X.hears, X.method, X.code, X.here, X.tail, X.warmed, ?_, ?_, ?_⟩
  · have h := X.room
    have hU : ((T.setVm s.vm).setFrames (.invoking m args :: below)).localsInUse = s.localsInUse := by
      rw [State.localsInUse_invoking hF (meth := meth) (c := c) X.method X.code, State.localsInUse_invoking X.frames X.method X.code]
    simp only [State.hasRoom, Bool.and_eq_true, decide_eq_true_eq] at h ⊢
    obtain ⟨⟨⟨⟨h1, h2, h3, h4, h5, h6⟩, h7⟩, h8⟩, h9⟩ := h
    rw [X.frames, List.length_cons] at h2 h3
    have q1 := X.heapSize
    have q2 := X.used
    simp only [hF, hU, List.length_cons, State.stackLimits_setFrames, State.stackBytes_setFrames, hl9, hb9]
    refine ⟨⟨⟨⟨by omega, by omega, by omega, by omega, by omega, h6⟩, ?_⟩, ?_⟩, X.book⟩
    · show T.heap.size + R'.cells ≤ e.platform.maxCells
      omega
    · show T.slotsUsed + R'.slots ≤ e.platform.maxSlots
      omega
  · rw [State.stackLimits_setFrames]; rfl
  · rw [State.stackBytes_setFrames]; rfl
  · refine ⟨?_, Nat.le_refl _, Nat.le_refl _, ?_, ?_, fun a c9 h9 => ⟨c9, h9, rfl, rfl, fun _ _ => rfl⟩⟩
    · obtain ⟨t, ht, -⟩ := State.frames_cons hr
      show T.setVm s.vm = { ((T.setVm s.vm).setFrames (.invoking m args :: below)).setFrames (T.setVm s.vm).frames with heap := T.heap, slotsUsed := T.slotsUsed }
      rw [State.setFrames_setFrames, State.setFrames_self ht]
      rfl
    · show T.slotsUsed = T.slotsUsed + ((T.heap.toList.drop T.heap.size).map (·.slots.size)).sum
      rw [List.drop_eq_nil_of_le (Nat.le_of_eq Array.length_toList)]
      rfl
    · show ((T.heap.toList.drop T.heap.size).map (·.slots.size)).sum ≤ 0
      rw [List.drop_eq_nil_of_le (Nat.le_of_eq Array.length_toList)]
      exact Nat.le_refl _
/-- 'throw new E()': new; dup; invokespecial; athrow -/
theorem vx_throw0 {cc : ByteArray} {pc : Nat} (hexec : p.tables.exec = Jvm.exec) (hb : c.code = cc) (hl : l.stackTraces = false) {own cls : String} {names : List String} {ik ic mc ms : Nat} {A : Nat → Prop}
    (hown : s.vm.findClass own = some m.cls) (hcls : Bundle.fit cls = true) (hnames : ∀ n ∈ names, Bundle.fit n = true)
    (hk : (Cond.classLink own ik cls).before args s = true) (hini : (Cond.initialized cls).before args s = true) (hat : ∀ w ∈ vx_at0 own ic cls names, w.before args s = true)
    (hgood : ∀ w ∈ Cond.classLink own ik cls :: Cond.initialized cls :: vx_at0 own ic cls names, vx_ot w = true)
    (hU : vx_Zq Bundle.tN "UNASSIGNED_STACK" Bundle.steD A s s.heap) (hN : vx_Zq Bundle.tN "SUPPRESSED_SENTINEL" Bundle.listD A s s.heap) (hS : va_S A s.heap H locs) (hsize : ls.size = c.maxLocals)
    (d0 : decode cc pc = .ok (.new ik, 3)) (d3 : decode cc (pc + 3) = .ok (.dup, 1)) (d4 : decode cc (pc + 4) = .ok (.invokespecial ic, 3)) (d7 : decode cc (pc + 7) = .ok (.athrow, 1))
    (hout : ∀ x ∈ c.exceptionTable.toList, covers x (pc + 7) = false)
    (hRframes : names.length + 3 < R.frames) (hRlocals : (rest.map fun v => v.category).sum + (13 * (names.length + 1) + 42) ≤ R.locals) (hRcells : cells + 1 ≤ R.cells) (hRslots : slots + 6 ≤ R.slots) (hlocks : meth.locks = false)
    (hx : ∀ t : State, s.vm.Alike t.vm → H.size ≤ t.heap.size → (∀ q : Nat, q < H.size → t.heap[q]? = H[q]?) → XC cls s t)
    (hf : ∀ z ∈ locs, free z.base) (hc : cells + 1 ≤ mc) (hs : slots + 6 ≤ ms) :
    W p l e R s m args below meth c H locs cells slots (vx_MQ below Qc XC args s mc ms free) (F0 m pc ls rest) := by
  intro T hT X
  have htr : e.platform.stackTraces = false := (show e.platform.stackTraces = l.stackTraces by rw [X.admits.platform]).trans hl
  have Y := vx_rebase X (R' := { frames := R.frames, locals := R.locals, cells := 1, slots := 6 }) (Nat.le_refl _) (Nat.le_refl _) hRcells hRslots
  obtain ⟨s', hA⟩ : ∃ z, z = (T.setVm s.vm).setFrames (.invoking m args :: below) := ⟨_, rfl⟩
  rw [← hA] at Y
  have hvm : s'.vm = s.vm := by rw [hA]; rfl
  have hhp : s'.heap = H := by rw [hA]; exact hT
  have hW0 : s.WarmedH s'.vm := by rw [hvm]; exact State.WarmedH.refl s
  have hat' : ∀ w ∈ vx_at0 own ic cls names, w.before args s' = true := fun w hw => vx_ot_at hW0 hvm.symm (hgood w (List.mem_cons_of_mem _ (List.mem_cons_of_mem _ hw))) (hat w hw)
  have hk' : (Cond.classLink own ik cls).before args s' = true := vx_ot_at hW0 hvm.symm (hgood _ List.mem_cons_self) hk
  have hini' : (Cond.initialized cls).before args s' = true := vx_ot_at hW0 hvm.symm (hgood _ (List.mem_cons_of_mem _ List.mem_cons_self)) hini
  have hU' : vx_Zq Bundle.tN "UNASSIGNED_STACK" Bundle.steD A s' s'.heap := by rw [hhp]; exact vx_Zq.moved hW0.alike (hU.kept hS.2.1)
  have hN' : vx_Zq Bundle.tN "SUPPRESSED_SENTINEL" Bundle.listD A s' s'.heap := by rw [hhp]; exact vx_Zq.moved hW0.alike (hN.kept hS.2.1)
  have h : ∀ w ∈ Bundle.ownAtoms0 own ic cls names, w.before args s' = true := vx_own hat' (vx_isRefq hU'.1) (vx_isRefq hN'.1) hU'.2.word hN'.2.word
  have hown' : s'.vm.findClass own = some m.cls := by rw [hvm]; exact hown
  have hins : (Cond.instantiable cls 6).before args s' = true := h _ (by simp [Bundle.ownAtoms0])
  obtain ⟨vm₁, cX, kX, hfX, hkX, -, -, X₁, st1⟩ := Y.newCold hexec (own := own) (C := cls) (index := ik) (n := 6) hown' hk' hins hini'
    (g := F0 m pc ls rest) rfl (by rw [hb]; exact d0) (Nat.le_refl _) (Nat.le_refl _)
  generalize hT1 : (T.setVm vm₁).pushCell { cls := cX, slots := kX.instanceTypes.map defaultValue, vm := .none } = T1 at X₁ st1
  have hcat : (Value.ref T.heap.size).category = 1 := rfl
  have hcellA : T1.heap[T.heap.size]? = some (freshCell cX kX) := by rw [← hT1]; exact State.heap_pushCell_size _ _
  have d3' : decode c.code (pc + 3) = .ok (.dup, 1) := by rw [hb]; exact d3
  obtain ⟨U, hsteps, hrun, hend, hW, hsame, ce, hce, hO⟩ := X₁.ctorThrow0 hexec htr (own := own) (cls := cls) (names := names) (ic := ic) hown' hcls hnames h (fun x hx => nomatch hx) hfX hkX hcellA (by rw [hhp, hT]; exact Nat.le_refl _)
    (g := { method := m, pc := pc + 4, locals := ls, stack := .ref T.heap.size :: .ref T.heap.size :: rest, locked := none }) rfl hsize rfl rfl (rest := rest) rfl
    (by rw [hb]; exact d4) (by rw [hb]; exact d7) hout hRframes (by simp only [List.map_cons, List.sum_cons, hcat]; omega) hlocks
  obtain ⟨f1, f2⟩ := vx_frame hsame
  rw [hhp] at f1 f2
  have hWs : s.WarmedH U.vm := State.WarmedH.trans hW0 hW
  have hcl : s.vm.findClass cls = some ce.cls := by
    have h9 := hO.cls
    rw [hvm] at h9
    exact h9
  have hall : s.sameButNew ({ U with vm := s.vm } : State) locs mc ms := by
    subst hA
    obtain ⟨e1, e2⟩ := hsame
    rw [State.setFrames_setFrames] at e1
    have h2 : (T.setVm s.vm).sameButNew ({ U with vm := s.vm } : State) [] (0 + 1) (0 + 6) := ⟨e1, e2⟩
    have h3 := X.same.trans h2
    rw [List.append_nil] at h3
    exact h3.mono hc hs
  refine ⟨U, ?_, .threw T.heap.size, hrun, hend, Or.inr ⟨T.heap.size, rfl, cls, ce, locs, hx U hWs.alike f1 (fun q hq => f2 q hq (fun z hz => nomatch hz)), hce, hO.vm, hcl, hWs, hall, hf⟩⟩
  refine st1 _ ?_
  show Steps p.tables e below (T1.setTop { method := m, pc := pc + 3, locals := ls, stack := .ref T.heap.size :: rest, locked := none }) _
  jvm_step X₁.here [X₁.here.top, hexec, d3', Value.category]
  exact hsteps
/-- 'throw new E("text")': new; dup; ldc; invokespecial; athrow -/
theorem vx_throwS {cc : ByteArray} {pc : Nat} (hexec : p.tables.exec = Jvm.exec) (hb : c.code = cc) (hl : l.stackTraces = false) {own cls text : String} {names : List String} {ik is ic mc ms sa : Nat} {A : Nat → Prop}
    (hown : s.vm.findClass own = some m.cls) (hcls : Bundle.fit cls = true) (hnames : ∀ n ∈ names, Bundle.fit n = true)
    (hk : (Cond.classLink own ik cls).before args s = true) (hini : (Cond.initialized cls).before args s = true) (hstr : vk_R own is text sa s) (hat : ∀ w ∈ vx_atS own ic cls names, w.before args s = true)
    (hgood : ∀ w ∈ Cond.classLink own ik cls :: Cond.initialized cls :: vx_atS own ic cls names, vx_ot w = true)
    (hU : vx_Zq Bundle.tN "UNASSIGNED_STACK" Bundle.steD A s s.heap) (hN : vx_Zq Bundle.tN "SUPPRESSED_SENTINEL" Bundle.listD A s s.heap) (hS : va_S A s.heap H locs) (hsize : ls.size = c.maxLocals)
    (d0 : decode cc pc = .ok (.new ik, 3)) (d3 : decode cc (pc + 3) = .ok (.dup, 1)) (d4 : decode cc (pc + 4) = .ok (.ldc is, 2)) (d6 : decode cc (pc + 6) = .ok (.invokespecial ic, 3)) (d9 : decode cc (pc + 9) = .ok (.athrow, 1))
    (hout : ∀ x ∈ c.exceptionTable.toList, covers x (pc + 9) = false)
    (hRframes : names.length + 3 < R.frames) (hRlocals : (rest.map fun v => v.category).sum + (13 * (names.length + 1) + 43) ≤ R.locals) (hRcells : cells + 1 ≤ R.cells) (hRslots : slots + 6 ≤ R.slots) (hlocks : meth.locks = false)
    (hx : ∀ t : State, s.vm.Alike t.vm → H.size ≤ t.heap.size → (∀ q : Nat, q < H.size → t.heap[q]? = H[q]?) → XC cls s t)
    (hf : ∀ z ∈ locs, free z.base) (hc : cells + 1 ≤ mc) (hs : slots + 6 ≤ ms) :
    W p l e R s m args below meth c H locs cells slots (vx_MQ below Qc XC args s mc ms free) (F0 m pc ls rest) := by
  intro T hT X
  have htr : e.platform.stackTraces = false := (show e.platform.stackTraces = l.stackTraces by rw [X.admits.platform]).trans hl
  have Y := vx_rebase X (R' := { frames := R.frames, locals := R.locals, cells := 1, slots := 6 }) (Nat.le_refl _) (Nat.le_refl _) hRcells hRslots
  obtain ⟨s', hA⟩ : ∃ z, z = (T.setVm s.vm).setFrames (.invoking m args :: below) := ⟨_, rfl⟩
  rw [← hA] at Y
  have hvm : s'.vm = s.vm := by rw [hA]; rfl
  have hhp : s'.heap = H := by rw [hA]; exact hT
  have hW0 : s.WarmedH s'.vm := by rw [hvm]; exact State.WarmedH.refl s
  have hat' : ∀ w ∈ vx_atS own ic cls names, w.before args s' = true := fun w hw => vx_ot_at hW0 hvm.symm (hgood w (List.mem_cons_of_mem _ (List.mem_cons_of_mem _ hw))) (hat w hw)
  have hk' : (Cond.classLink own ik cls).before args s' = true := vx_ot_at hW0 hvm.symm (hgood _ List.mem_cons_self) hk
  have hini' : (Cond.initialized cls).before args s' = true := vx_ot_at hW0 hvm.symm (hgood _ (List.mem_cons_of_mem _ List.mem_cons_self)) hini
  have hU' : vx_Zq Bundle.tN "UNASSIGNED_STACK" Bundle.steD A s' s'.heap := by rw [hhp]; exact vx_Zq.moved hW0.alike (hU.kept hS.2.1)
  have hN' : vx_Zq Bundle.tN "SUPPRESSED_SENTINEL" Bundle.listD A s' s'.heap := by rw [hhp]; exact vx_Zq.moved hW0.alike (hN.kept hS.2.1)
  have h : ∀ w ∈ Bundle.ownAtoms own ic cls names, w.before args s' = true := vx_own hat' (vx_isRefq hU'.1) (vx_isRefq hN'.1) hU'.2.word hN'.2.word
  have hown' : s'.vm.findClass own = some m.cls := by rw [hvm]; exact hown
  have hins : (Cond.instantiable cls 6).before args s' = true := h _ (by simp [Bundle.ownAtoms])
  obtain ⟨vm₁, cX, kX, hfX, hkX, -, -, X₁, st1⟩ := Y.newCold hexec (own := own) (C := cls) (index := ik) (n := 6) hown' hk' hins hini'
    (g := F0 m pc ls rest) rfl (by rw [hb]; exact d0) (Nat.le_refl _) (Nat.le_refl _)
  generalize hT1 : (T.setVm vm₁).pushCell { cls := cX, slots := kX.instanceTypes.map defaultValue, vm := .none } = T1 at X₁ st1
  have hcat : (Value.ref T.heap.size).category = 1 := rfl
  have hcellA : T1.heap[T.heap.size]? = some (freshCell cX kX) := by rw [← hT1]; exact State.heap_pushCell_size _ _
  have d3' : decode c.code (pc + 3) = .ok (.dup, 1) := by rw [hb]; exact d3
  have d4' : decode c.code (pc + 4) = .ok (.ldc is, 2) := by rw [hb]; exact d4
  have hstr' : vk_R own is text sa s' := vk_R.warm hW0 hstr
  obtain ⟨U, hsteps, hrun, hend, hW, hsame, ce, hce, hO⟩ := X₁.ctorThrowS hexec htr (own := own) (cls := cls) (names := names) (ic := ic) hown' hcls hnames h (fun x hx => nomatch hx) hfX hkX hcellA (by rw [hhp, hT]; exact Nat.le_refl _) (msg := .ref sa) rfl
    (g := { method := m, pc := pc + 6, locals := ls, stack := .ref sa :: .ref T.heap.size :: .ref T.heap.size :: rest, locked := none }) rfl hsize rfl rfl (rest := rest) rfl
    (by rw [hb]; exact d6) (by rw [hb]; exact d9) hout hRframes (by simp only [List.map_cons, List.sum_cons, hcat]; omega) hlocks
  obtain ⟨f1, f2⟩ := vx_frame hsame
  rw [hhp] at f1 f2
  have hWs : s.WarmedH U.vm := State.WarmedH.trans hW0 hW
  have hcl : s.vm.findClass cls = some ce.cls := by
    have h9 := hO.cls
    rw [hvm] at h9
    exact h9
  have hall : s.sameButNew ({ U with vm := s.vm } : State) locs mc ms := by
    subst hA
    obtain ⟨e1, e2⟩ := hsame
    rw [State.setFrames_setFrames] at e1
    have h2 : (T.setVm s.vm).sameButNew ({ U with vm := s.vm } : State) [] (0 + 1) (0 + 6) := ⟨e1, e2⟩
    have h3 := X.same.trans h2
    rw [List.append_nil] at h3
    exact h3.mono hc hs
  refine ⟨U, ?_, .threw T.heap.size, hrun, hend, Or.inr ⟨T.heap.size, rfl, cls, ce, locs, hx U hWs.alike f1 (fun q hq => f2 q hq (fun z hz => nomatch hz)), hce, hO.vm, hcl, hWs, hall, hf⟩⟩
  refine st1 _ ?_
  show Steps p.tables e below (T1.setTop { method := m, pc := pc + 3, locals := ls, stack := .ref T.heap.size :: rest, locked := none }) _
  jvm_step X₁.here [X₁.here.top, hexec, d3', Value.category]
  exact X₁.ldcString hexec (own := own) (text := text) (index := is) (a := sa) hown' hstr'.1 hstr'.2
    (g := { method := m, pc := pc + 4, locals := ls, stack := .ref T.heap.size :: .ref T.heap.size :: rest, locked := none }) rfl d4' _ hsteps
/-- 'throw new E("text")', the text by a wide index -/
theorem vx_throwSW {cc : ByteArray} {pc : Nat} (hexec : p.tables.exec = Jvm.exec) (hb : c.code = cc) (hl : l.stackTraces = false) {own cls text : String} {names : List String} {ik is ic mc ms sa : Nat} {A : Nat → Prop}
    (hown : s.vm.findClass own = some m.cls) (hcls : Bundle.fit cls = true) (hnames : ∀ n ∈ names, Bundle.fit n = true)
    (hk : (Cond.classLink own ik cls).before args s = true) (hini : (Cond.initialized cls).before args s = true) (hstr : vk_R own is text sa s) (hat : ∀ w ∈ vx_atS own ic cls names, w.before args s = true)
    (hgood : ∀ w ∈ Cond.classLink own ik cls :: Cond.initialized cls :: vx_atS own ic cls names, vx_ot w = true)
    (hU : vx_Zq Bundle.tN "UNASSIGNED_STACK" Bundle.steD A s s.heap) (hN : vx_Zq Bundle.tN "SUPPRESSED_SENTINEL" Bundle.listD A s s.heap) (hS : va_S A s.heap H locs) (hsize : ls.size = c.maxLocals)
    (d0 : decode cc pc = .ok (.new ik, 3)) (d3 : decode cc (pc + 3) = .ok (.dup, 1)) (d4 : decode cc (pc + 4) = .ok (.ldc_w is, 3)) (d7 : decode cc (pc + 7) = .ok (.invokespecial ic, 3)) (d10 : decode cc (pc + 10) = .ok (.athrow, 1))
    (hout : ∀ x ∈ c.exceptionTable.toList, covers x (pc + 10) = false)
    (hRframes : names.length + 3 < R.frames) (hRlocals : (rest.map fun v => v.category).sum + (13 * (names.length + 1) + 43) ≤ R.locals) (hRcells : cells + 1 ≤ R.cells) (hRslots : slots + 6 ≤ R.slots) (hlocks : meth.locks = false)
    (hx : ∀ t : State, s.vm.Alike t.vm → H.size ≤ t.heap.size → (∀ q : Nat, q < H.size → t.heap[q]? = H[q]?) → XC cls s t)
    (hf : ∀ z ∈ locs, free z.base) (hc : cells + 1 ≤ mc) (hs : slots + 6 ≤ ms) :
    W p l e R s m args below meth c H locs cells slots (vx_MQ below Qc XC args s mc ms free) (F0 m pc ls rest) := by
  intro T hT X
  have htr : e.platform.stackTraces = false := (show e.platform.stackTraces = l.stackTraces by rw [X.admits.platform]).trans hl
  have Y := vx_rebase X (R' := { frames := R.frames, locals := R.locals, cells := 1, slots := 6 }) (Nat.le_refl _) (Nat.le_refl _) hRcells hRslots
  obtain ⟨s', hA⟩ : ∃ z, z = (T.setVm s.vm).setFrames (.invoking m args :: below) := ⟨_, rfl⟩
  rw [← hA] at Y
  have hvm : s'.vm = s.vm := by rw [hA]; rfl
  have hhp : s'.heap = H := by rw [hA]; exact hT
  have hW0 : s.WarmedH s'.vm := by rw [hvm]; exact State.WarmedH.refl s
  have hat' : ∀ w ∈ vx_atS own ic cls names, w.before args s' = true := fun w hw => vx_ot_at hW0 hvm.symm (hgood w (List.mem_cons_of_mem _ (List.mem_cons_of_mem _ hw))) (hat w hw)
  have hk' : (Cond.classLink own ik cls).before args s' = true := vx_ot_at hW0 hvm.symm (hgood _ List.mem_cons_self) hk
  have hini' : (Cond.initialized cls).before args s' = true := vx_ot_at hW0 hvm.symm (hgood _ (List.mem_cons_of_mem _ List.mem_cons_self)) hini
  have hU' : vx_Zq Bundle.tN "UNASSIGNED_STACK" Bundle.steD A s' s'.heap := by rw [hhp]; exact vx_Zq.moved hW0.alike (hU.kept hS.2.1)
  have hN' : vx_Zq Bundle.tN "SUPPRESSED_SENTINEL" Bundle.listD A s' s'.heap := by rw [hhp]; exact vx_Zq.moved hW0.alike (hN.kept hS.2.1)
  have h : ∀ w ∈ Bundle.ownAtoms own ic cls names, w.before args s' = true := vx_own hat' (vx_isRefq hU'.1) (vx_isRefq hN'.1) hU'.2.word hN'.2.word
  have hown' : s'.vm.findClass own = some m.cls := by rw [hvm]; exact hown
  have hins : (Cond.instantiable cls 6).before args s' = true := h _ (by simp [Bundle.ownAtoms])
  obtain ⟨vm₁, cX, kX, hfX, hkX, -, -, X₁, st1⟩ := Y.newCold hexec (own := own) (C := cls) (index := ik) (n := 6) hown' hk' hins hini'
    (g := F0 m pc ls rest) rfl (by rw [hb]; exact d0) (Nat.le_refl _) (Nat.le_refl _)
  generalize hT1 : (T.setVm vm₁).pushCell { cls := cX, slots := kX.instanceTypes.map defaultValue, vm := .none } = T1 at X₁ st1
  have hcat : (Value.ref T.heap.size).category = 1 := rfl
  have hcellA : T1.heap[T.heap.size]? = some (freshCell cX kX) := by rw [← hT1]; exact State.heap_pushCell_size _ _
  have d3' : decode c.code (pc + 3) = .ok (.dup, 1) := by rw [hb]; exact d3
  have d4' : decode c.code (pc + 4) = .ok (.ldc_w is, 3) := by rw [hb]; exact d4
  have hstr' : vk_R own is text sa s' := vk_R.warm hW0 hstr
  obtain ⟨U, hsteps, hrun, hend, hW, hsame, ce, hce, hO⟩ := X₁.ctorThrowS hexec htr (own := own) (cls := cls) (names := names) (ic := ic) hown' hcls hnames h (fun x hx => nomatch hx) hfX hkX hcellA (by rw [hhp, hT]; exact Nat.le_refl _) (msg := .ref sa) rfl
    (g := { method := m, pc := pc + 7, locals := ls, stack := .ref sa :: .ref T.heap.size :: .ref T.heap.size :: rest, locked := none }) rfl hsize rfl rfl (rest := rest) rfl
    (by rw [hb]; exact d7) (by rw [hb]; exact d10) hout hRframes (by simp only [List.map_cons, List.sum_cons, hcat]; omega) hlocks
  obtain ⟨f1, f2⟩ := vx_frame hsame
  rw [hhp] at f1 f2
  have hWs : s.WarmedH U.vm := State.WarmedH.trans hW0 hW
  have hcl : s.vm.findClass cls = some ce.cls := by
    have h9 := hO.cls
    rw [hvm] at h9
    exact h9
  have hall : s.sameButNew ({ U with vm := s.vm } : State) locs mc ms := by
    subst hA
    obtain ⟨e1, e2⟩ := hsame
    rw [State.setFrames_setFrames] at e1
    have h2 : (T.setVm s.vm).sameButNew ({ U with vm := s.vm } : State) [] (0 + 1) (0 + 6) := ⟨e1, e2⟩
    have h3 := X.same.trans h2
    rw [List.append_nil] at h3
    exact h3.mono hc hs
  refine ⟨U, ?_, .threw T.heap.size, hrun, hend, Or.inr ⟨T.heap.size, rfl, cls, ce, locs, hx U hWs.alike f1 (fun q hq => f2 q hq (fun z hz => nomatch hz)), hce, hO.vm, hcl, hWs, hall, hf⟩⟩
  refine st1 _ ?_
  show Steps p.tables e below (T1.setTop { method := m, pc := pc + 3, locals := ls, stack := .ref T.heap.size :: rest, locked := none }) _
  jvm_step X₁.here [X₁.here.top, hexec, d3', Value.category]
  exact X₁.ldcStringW hexec (own := own) (text := text) (index := is) (a := sa) hown' hstr'.1 hstr'.2
    (g := { method := m, pc := pc + 4, locals := ls, stack := .ref T.heap.size :: .ref T.heap.size :: rest, locked := none }) rfl d4' _ hsteps
end Ends
section Bodies
variable {l : Launch}
theorem vx_ofW {y : MethodName} {ws ws' : List Cond} {rm : Room} {Pc : Array Value → State → Prop} {Qc : Array Value → State → Outcome → State → Prop} {XC : String → State → State → Prop} {mc ms : Nat} {free : Addr → Prop} {cc : ByteArray} {maxL : Nat} {ret : Option FieldType}
    (hy : plainName y.cls = true) (hw : ws = Cond.code y cc maxL ret :: ws')
    (body : ∀ p e s m args below meth c s₁, BodyLoose p l y (headSpec ws rm) cc maxL ret e s m args below meth c s₁ → c.maxLocals = maxL → (∀ x ∈ c.exceptionTable.toList, False) → Pc args s →
      W p l e (headSpec ws rm).room s m args below meth c s.heap [] 0 0 (vx_MQ below Qc XC args s mc ms free) (entryFrame m args maxL)) : vx_Met l y ws rm Pc Qc XC mc ms free := by
  refine MetFree.of_bodyS (code := cc) (maxLocals := maxL) (ret := ret) hy ?_ ?_
  · intro args s m h hn
    obtain ⟨meth, c, h1, h2, h3, h4, h5, h6, -, -⟩ := Cond.code_spec hn (atoms_spec (ws := ws) h _ (by rw [hw]; exact List.mem_cons_self))
    exact ⟨meth, c, h1, h2, h3, h4, h5, h6⟩
  · intro p e s m args below meth c s₁ B hml hP _
    have hh0 : s₁.heap = s.heap := by rw [B.state]; rfl
    have ht : ∀ x ∈ c.exceptionTable.toList, False := by
      obtain ⟨meth9, c9, h1, h2, -, -, -, -, h7, -⟩ := Cond.code_spec B.named (atoms_spec (ws := ws) B.pre _ (by rw [hw]; exact List.mem_cons_self))
      cases Option.some.inj (h1.symm.trans B.method)
      cases Option.some.inj (h2.symm.trans (Stand.of_body B).code)
      intro x hx
      rw [Array.isEmpty_iff.mp h7] at hx
      cases hx
    obtain ⟨t, a1, o, b1, b2, b3⟩ := body p e s m args below meth c s₁ B hml ht hP s₁ hh0 (Stand.of_body B)
    exact ⟨t, o, a1, b1, b2, b3⟩
/-- the table of a body with handlers -/
theorem vx_table {p : Program} {x y : MethodName} {S : Spec} {cc bytes : ByteArray} {maxL maxL' : Nat} {ret ret' : Option FieldType} {e : Env} {s s₁ : State} {m : MethodId} {args : Array Value} {below : List Frame} {meth : Method} {c : Code} {hh : List (Nat × Nat × Nat × Nat)}
    (B : BodyLoose p l y S cc maxL ret e s m args below meth c s₁) (h : (Cond.codeWith y bytes maxL' ret' hh).before args s = true) : c.exceptionTable.toList = tableOf hh := by
  obtain ⟨m9, meth9, c9, hn9, h1, h2, -, -, h6, -⟩ := Cond.codeWith_spec h
  cases Option.some.inj (hn9.symm.trans B.named)
  cases Option.some.inj (h1.symm.trans B.method)
  cases Option.some.inj (h2.symm.trans (Stand.of_body B).code)
  rw [← h6, table_eq]
end Bodies
end VXA
/-! ===== END ===== -/
/-! ===== BEGIN a static call of a method with an exception table ===== -/
section VXS
variable {p : Program} {l : Launch} {e : Env} {R : Room} {s : State} {m : MethodId} {args : Array Value} {below : List Frame} {meth : Method} {c : Code} {T : State} {H : Heap} {locs : List Loc} {cells slots : Nat}
abbrev vx_CSW (R : Room) (s : State) (args : Array Value) (own : String) (index : Nat) (y : MethodName) (bytes : ByteArray) (maxL : Nat) (ret : Option FieldType) (hh : List (Nat × Nat × Nat × Nat)) (ws : List Cond) (rm : Room) (mc ms n : Nat) : Prop :=
  (rm.cells = mc ∧ rm.slots = ms ∧ rm.frames + 1 ≤ R.frames ∧ 8 + (maxL + 11) + rm.locals ≤ R.locals ∧ (∀ w ∈ ws, ∀ (a' : Array Value) (U : State), s.WarmedH U.vm → w.before a' U = true) ∧ Cond.codeWith y bytes maxL ret hh ∈ ws) ∧
  (Cond.codeWith y bytes maxL ret hh).before args s = true ∧ (Cond.initialized y.cls).before args s = true ∧ (y.cls ≠ "java/lang/invoke/MethodHandle" ∧ y.cls ≠ "java/lang/invoke/VarHandle") ∧
  (∀ sig, parseMethodDescriptor y.desc = some sig → n = sig.parameters.length) ∧ (Cond.methodLink own index y).before args s = true ∧ (Cond.static y).before args s = true
theorem vx_cwSW {own : String} {index maxL mc ms : Nat} {y : MethodName} {bytes : ByteArray} {ret : Option FieldType} {hh : List (Nat × Nat × Nat × Nat)} {Ts ws ws' : List Cond} {rm : Room} (n : Nat) (ht : ∀ w ∈ Ts, w.before args s = true) (hT : GoodIn Ts (va_wsS own index y ws)) (hw : ws = Cond.codeWith y bytes maxL ret hh :: ws') (hrc : rm.cells = mc) (hrs : rm.slots = ms)
    (hd : y.cls ≠ "java/lang/invoke/MethodHandle" ∧ y.cls ≠ "java/lang/invoke/VarHandle" ∧ (parseMethodDescriptor y.desc).map (fun d => d.parameters.length) = some n) (hR : rm.frames + 1 ≤ R.frames ∧ 8 + (maxL + 11) + rm.locals ≤ R.locals) :
    vx_CSW R s args own index y bytes maxL ret hh ws rm mc ms n := by
  have ok : ∀ w ∈ va_wsS own index y ws, w.before args s = true := fun w h => ht w (hT w h).1
  have hG : GoodIn Ts ws := fun w h => hT w (by unfold va_wsS; exact List.mem_append_right _ h)
  have hc : Cond.codeWith y bytes maxL ret hh ∈ ws := by rw [hw]; exact List.mem_cons_self
  refine ⟨⟨hrc, hrs, hR.1, hR.2, pay_in ht hG, hc⟩, ht _ (hG _ hc).1, ok _ (by simp [va_wsS]), ⟨hd.1, hd.2.1⟩, fun sig h => ?_, ok _ (by simp [va_wsS]), ok _ (by simp [va_wsS])⟩
  have h2 := hd.2.2
  rw [h] at h2
  exact (Option.some.inj h2).symm
theorem vx_callSW (X : Stand p l e R s m args below meth c T locs cells slots) (hexec : p.tables.exec = Jvm.exec) {own : String} {index : Nat} {y : MethodName} {bytes : ByteArray} {maxL : Nat} {ret : Option FieldType} {hh : List (Nat × Nat × Nat × Nat)}
    (hown : s.vm.findClass own = some m.cls) (hlink : (Cond.methodLink own index y).before args s = true) (hstat : (Cond.static y).before args s = true) (hinit : (Cond.initialized y.cls).before args s = true)
    (hcode : (Cond.codeWith y bytes maxL ret hh).before args s = true) (hy : y.cls ≠ "java/lang/invoke/MethodHandle" ∧ y.cls ≠ "java/lang/invoke/VarHandle")
    {W9 : Nat} {Pre : Pt → Array Value → Prop} {Post : Pt → Array Value → Option Value → Pt → Prop} (hK : Back l R p e below s args y 3 W9 Pre Post)
    {g : JFrame} (hg : g.method = m) (hsize : g.locals.size = c.maxLocals) {argsL rest : List Value} (hlen : ∀ sig, parseMethodDescriptor y.desc = some sig → argsL.length = sig.parameters.length)
    (hstack : g.stack = argsL.reverse ++ rest) (hW : 2 * g.monitorRoom + (rest.map fun v => v.category).sum ≤ W9) (hdg : decode c.code g.pc = .ok (.invokestatic index, 3))
    (hpre : ∀ vm₁, s.WarmedH vm₁ → Pre ⟨T.setVm vm₁, locs, cells, slots⟩ argsL.toArray) :
    ∃ (v : Option Value) (vm₁ : Vm) (B : Pt), s.WarmedH vm₁ ∧ Stand p l e R s m args below meth c B.U B.locs B.cells B.slots ∧ Post ⟨T.setVm vm₁, locs, cells, slots⟩ argsL.toArray v B ∧
      ∀ target, Steps p.tables e below (B.U.setTop { g with pc := g.pc + 3, stack := v.toList ++ rest }) target → Steps p.tables e below (T.setTop g) target := by
  obtain ⟨mk, methM, cM, hnamed, hmethM, -, -, -, -, -, -, hsigM⟩ := Cond.codeWith_spec hcode
  have hstatic : methM.isStatic = true := Cond.static_spec hnamed hmethM hstat
  obtain ⟨kP, hkP, -⟩ := className_of_methodNamed hnamed
  have hinitP : kP.init = .initialized := Cond.initialized_spec (findClass_of_methodNamed hnamed) hkP hinit
  obtain ⟨vm₁, X₁, hstep₁⟩ := X.invokestatic hexec hown hlink hnamed hmethM hstatic hkP hinitP hy (g := g) hg (argsL := argsL) (rest := rest) (hlen _ hsigM) hstack hdg
  obtain ⟨v, B, X', hpost, hsteps⟩ := hK m meth c ⟨T.setVm vm₁, locs, cells, slots⟩ { g with stack := rest } (.invokestatic index) mk argsL.toArray X₁ hg hsize hdg hW (X₁.named hnamed) (hpre vm₁ X₁.warmed)
  exact ⟨v, vm₁, B, X₁.warmed, X', hpost, fun target h => hstep₁ _ fun acts => by rw [doInvoke_state]; exact hsteps.trans h⟩
theorem vx_runSW {y : MethodName} {bytes cc : ByteArray} {maxL nL mc ms n index : Nat} {ret : Option FieldType} {hh : List (Nat × Nat × Nat × Nat)} {ws : List Cond} {rm : Room} {Pc : Array Value → State → Prop} {Qc : Array Value → State → Outcome → State → Prop} {free : Addr → Prop} {Ts : List Cond} {own : String} {As rest : List Value} {g : JFrame}
    (S : CallFix p m c cc nL s args Ts own) (hM : Met l y ws rm Pc Qc mc ms free) (cw : vx_CSW R s args own index y bytes maxL ret hh ws rm mc ms n) (hp : PreS s H Pc As)
    (hg : g.method = m) (hn : As.length = n) (hsize : g.locals.size = nL) (hstack : g.stack = As.reverse ++ rest) (hW : 2 * g.monitorRoom + (rest.map fun v => v.category).sum ≤ 8) (hdg : decode cc g.pc = .ok (.invokestatic index, 3)) (hf : cells + mc ≤ R.cells ∧ slots + ms ≤ R.slots) :
    va_Run p l e R s m args below meth c H locs cells slots mc ms g rest (Qc As.toArray) (free) := by
  obtain ⟨⟨hrc, hrs, hfr, hlo, hws, hcw⟩, hcode, hini, hy, hlen, hl, hstt⟩ := cw
  have hK : Back l R p e below s args y 3 8 (PreOf R mc ms Pc) (PostOf Qc mc ms free) := va_backW (hh := hh) (bytes := bytes) (maxL := maxL) (ret := ret) hM hp.1 hrc hrs hfr hlo hws hcw (fun a' U hW => word_at hW (Or.inl (by first | rfl | simp [Cond.onTables, Cond.keeps, Cond.steady])) hini)
  obtain ⟨hx, hb, hml, ho, -⟩ := S
  intro T hT X
  obtain ⟨v, vm₁, ⟨U', l2, c2, s2⟩, hW₁, X', ⟨g', mk, t, L, e1, e2, hq, h1, hL, h2, h3⟩, st⟩ := vx_callSW X hx (hh := hh) (bytes := bytes) (maxL := maxL) (ret := ret) ho hl hstt hini hcode hy hK hg (hsize.trans hml.symm) (argsL := As) (rest := rest) (fun sig h => hn.trans (hlen sig h)) hstack hW (by rw [hb]; exact hdg)
    (fun vm₁ hW₁ => ⟨hf.1, hf.2, hp.2 (T.setVm vm₁) hT hW₁⟩)
  dsimp only [Pt.U, Pt.locs, Pt.cells, Pt.slots] at X' e1 e2 h1 h2 h3 st
  subst h1; subst h2; subst h3
  exact ⟨v, (T.setVm vm₁).calling g' mk As.toArray, t, U', L, hT, X', hL, e1, e2, hq, st⟩
/-- a thing of a world lies in the heap -/
theorem vx_lt {D : va_G} {cl : List vw_C} {ws : va_W} {H1 : Heap} (h : va_P D cl ws H1) {k : Nat} {q : Nat × va_E} (hk : ws[k]? = some q) : q.1 < H1.size := (h k q hk).lt
end VXS
/-! ===== END ===== -/
/-! ===== BEGIN methods with a table of their own: called by a name, returning or throwing ===== -/
section VXH
/-! vx_backW, vx_callVX, vx_callSX, vx_callVW, vx_runVW, vx_runVX, vx_runSX, vx_ofWH follow the same proofs as their sisters above (Free/Laws.lean, Shelf42/LK1.lean); vx_outP calls Shelf42/NT130.lean (outThrough). -/
section
variable {l : Launch} {R : Room} {p : Program} {e : Env} {below : List Frame} {s : State} {sargs : Array Value} {y : MethodName} {len W9 : Nat}
theorem vx_backW {ws : List Cond} {rm : Room} {Pc : Array Value → State → Prop} {Qc : Array Value → State → Outcome → State → Prop} {XC : String → State → State → Prop} {mc ms : Nat} {free : Addr → Prop} {bytes : ByteArray} {maxL : Nat} {ret : Option FieldType} {hh : List (Nat × Nat × Nat × Nat)}
    (hM : vx_Met l y ws rm Pc Qc XC mc ms free) (hblind : FrameBlind Pc) (hrc : rm.cells = mc) (hrs : rm.slots = ms)
    (hframes : rm.frames + 1 ≤ R.frames) (hlocals : W9 + (maxL + 11) + rm.locals ≤ R.locals)
    (hws : ∀ w ∈ ws, ∀ a' U, s.WarmedH U.vm → w.before a' U = true) (hcode : Cond.codeWith y bytes maxL ret hh ∈ ws) (hinit : ∀ a' U, s.WarmedH U.vm → (Cond.initialized y.cls).before a' U = true) :
    vx_Back l R p e below s sargs y len W9 (PreOf R mc ms Pc) (PostOf Qc mc ms free) (vx_Post XC mc ms free) := by
  intro m meth c A g ig mk a X hg hsize hdg hW hn hp
  have h1 : (headSpec ws rm).pre.before a A.U = true := atoms_intro fun w hw => hws w hw _ _ X.warmed
  have h2 : (Cond.codeWith y bytes maxL ret hh).before a A.U = true := hws _ hcode _ _ X.warmed
  have h3 : (Cond.initialized y.cls).before a A.U = true := hinit _ _ X.warmed
  have h4 : A.cells + (headSpec ws rm).room.cells ≤ R.cells := by rw [show (headSpec ws rm).room.cells = mc from hrc]; exact hp.1
  have h5 : A.slots + (headSpec ws rm).room.slots ≤ R.slots := by rw [show (headSpec ws rm).room.slots = ms from hrs]; exact hp.2.1
  have hPc : Pc a (A.U.calling g mk a) := hblind _ _ _ _ hp.2.2
  obtain ⟨U, Ls, c0, s0⟩ := A
  dsimp only [Pt.U, Pt.locs, Pt.cells, Pt.slots] at h1 h2 h3 h4 h5 X hn hPc ⊢
  obtain ⟨m9, methY, cY, hn9, hmY, hcY, -, hlY, -⟩ := Cond.codeWith_spec h2
  cases Option.some.inj (hn9.symm.trans hn)
  obtain ⟨kY, hkY, -⟩ := className_of_methodNamed hn
  have hinitY : kY.init = .initialized := Cond.initialized_spec (findClass_of_methodNamed hn) hkY h3
  have h : At U g.method c below := by rw [hg]; exact X.here
  have hlocals9 : W9 + (maxL + 11) + (headSpec ws rm).room.locals ≤ R.locals := hlocals
  have happ : (headSpec ws rm).appliesLoose y e.platform (U.calling g mk a) = true :=
    Spec.appliesLoose_calling (g := g) h hdg hn hkY hinitY
      (X.room_calling (g := g) (R' := (headSpec ws rm).room) hsize hmY hcY hframes (by rw [hlY]; omega) h4 h5) h1
  obtain ⟨mid, hmid⟩ := h.above
  have hfr : (U.setTop g).frames = (.java g :: mid) ++ below := by rw [State.frames_setTop' g h.top, hmid]; rfl
  obtain ⟨o, s₂, hsteps, -, hend, hq⟩ := Steps.callFree hM p X.admits X.cas X.clock (acts := []) hfr happ hPc trivial
  have hq' : vx_Q Qc XC mc ms free a (U.calling g mk a) o s₂ := hq
  rw [State.frames_setTop' g h.top] at hend
  obtain ⟨g₀, hg0⟩ := Option.isSome_iff_exists.mp h.top
  obtain ⟨r, hr⟩ := State.topJava?_eq_some.mp hg0
  have hr' : (({ U with heap := s₂.heap, slotsUsed := s₂.slotsUsed } : State).setVm s₂.vm).frames = .java g₀ :: r := hr
  rcases hq' with ⟨hqc, L, hfe, hL⟩ | ⟨q, rfl, E, ce, L, hx, hce, hcv, hcl, hW₂, hsm, hL⟩
  · obtain ⟨⟨v, rfl⟩, hW₂, e2, q2, q3, q4, q5, q6⟩ := id hfe
    have e3 : s₂ = ({ (U.calling g mk a).setFrames s₂.frames with heap := s₂.heap, slotsUsed := s₂.slotsUsed } : State).setVm s₂.vm := by
      have : s₂ = ({ s₂ with vm := (U.calling g mk a).vm } : State).setVm s₂.vm := rfl
      rw [e2] at this
      exact this
    obtain ⟨c₂, i₂, len₂, hc₂, hd₂, hf₂⟩ := hend
    have hW' : U.WarmedH s₂.vm := hW₂
    have hcc : c₂ = c := by
      have h1 : s₂.code? g.method = U.code? g.method := by
        rw [State.code?_eq, State.code?_eq, hW'.alike.method?]
      exact Option.some.inj (hc₂.symm.trans (h1.trans h.code))
    subst hcc
    have hlen : len₂ = len := by rw [hdg] at hd₂; cases hd₂; rfl
    subst hlen
    have hs₂ : s₂ = (({ U with heap := s₂.heap, slotsUsed := s₂.slotsUsed } : State).setVm s₂.vm).setTop { g with pc := g.pc + len₂, stack := v.toList ++ g.stack } := by
      refine e3.trans ?_
      rw [hf₂, State.calling_eq h.top, State.setFrames_setFrames, State.setTop_of_frames _ hr', hr]
      rfl
    have hsame : U.sameButNew ({ U with heap := s₂.heap, slotsUsed := s₂.slotsUsed } : State) L mc ms := by
      refine ⟨?_, q2, q3, q4, q5, q6⟩
      obtain ⟨t, ht, -⟩ := State.frames_cons hr
      show ({ U with heap := s₂.heap, slotsUsed := s₂.slotsUsed } : State) = { U.setFrames U.frames with heap := s₂.heap, slotsUsed := s₂.slotsUsed }
      rw [State.setFrames_self ht]
    subst hg
    refine Or.inl ⟨v, ⟨(({ U with heap := s₂.heap, slotsUsed := s₂.slotsUsed } : State).setVm s₂.vm), Ls ++ L, c0 + mc, s0 + ms⟩,
      ⟨X.admits, X.cas, X.clock, X.frames, X.room, X.hears, X.method, X.code, (X.here.setHeapUsed s₂.heap s₂.slotsUsed).setVm hW'.alike, X.tail, State.WarmedH.trans X.warmed hW', X.limits, X.bytes, X.same.trans (hsame.setVm s.vm)⟩,
      ⟨g, mk, s₂, L, rfl, rfl, hqc, rfl, hL, rfl, rfl⟩, ?_⟩
    show Steps p.tables e below _ ((({ U with heap := s₂.heap, slotsUsed := s₂.slotsUsed } : State).setVm s₂.vm).setTop { g with pc := g.pc + len₂, stack := v.toList ++ g.stack })
    rw [← hs₂]
    exact hsteps
  · obtain ⟨e2, q2, q3, q4, q5, q6⟩ := id hsm
    have e3 : s₂ = ({ (U.calling g mk a).setFrames s₂.frames with heap := s₂.heap, slotsUsed := s₂.slotsUsed } : State).setVm s₂.vm := by
      have : s₂ = ({ s₂ with vm := (U.calling g mk a).vm } : State).setVm s₂.vm := rfl
      rw [e2] at this
      exact this
    have hf₂ : s₂.frames = .throwing q :: .java g :: U.frames.tail := hend
    have hW' : U.WarmedH s₂.vm := hW₂
    have hs₂ : s₂ = ((({ U with heap := s₂.heap, slotsUsed := s₂.slotsUsed } : State).setVm s₂.vm).setTop g).pushFrame (.throwing q) := by
      refine e3.trans ?_
      rw [hf₂, State.calling_eq h.top, State.setFrames_setFrames, State.pushFrame, State.frames_setTop _ hr', State.setTop_of_frames _ hr', State.setFrames_setFrames, hr]
      rfl
    have hsame : U.sameButNew ({ U with heap := s₂.heap, slotsUsed := s₂.slotsUsed } : State) L mc ms := by
      refine ⟨?_, q2, q3, q4, q5, q6⟩
      obtain ⟨t, ht, -⟩ := State.frames_cons hr
      show ({ U with heap := s₂.heap, slotsUsed := s₂.slotsUsed } : State) = { U.setFrames U.frames with heap := s₂.heap, slotsUsed := s₂.slotsUsed }
      rw [State.setFrames_self ht]
    subst hg
    refine Or.inr ⟨q, ⟨(({ U with heap := s₂.heap, slotsUsed := s₂.slotsUsed } : State).setVm s₂.vm), Ls ++ L, c0 + mc, s0 + ms⟩,
      ⟨X.admits, X.cas, X.clock, X.frames, X.room, X.hears, X.method, X.code, (X.here.setHeapUsed s₂.heap s₂.slotsUsed).setVm hW'.alike, X.tail, State.WarmedH.trans X.warmed hW', X.limits, X.bytes, X.same.trans (hsame.setVm s.vm)⟩,
      ⟨g, mk, s₂, L, E, ce, rfl, rfl, hx, hce, hcv, hcl, rfl, hL, rfl, rfl⟩, ?_⟩
    show Steps p.tables e below _ (((({ U with heap := s₂.heap, slotsUsed := s₂.slotsUsed } : State).setVm s₂.vm).setTop g).pushFrame (.throwing q))
    rw [← hs₂]
    exact hsteps
end
variable {p : Program} {l : Launch} {e : Env} {R : Room} {s : State} {m : MethodId} {args : Array Value} {below : List Frame} {meth : Method} {c : Code} {T : State} {H : Heap} {locs : List Loc} {cells slots : Nat}
theorem vx_callVX (X : Stand p l e R s m args below meth c T locs cells slots) (hexec : p.tables.exec = Jvm.exec) {own C : String} {index : Nat} {y : MethodName} {bytes : ByteArray} {maxL : Nat} {ret : Option FieldType} {hh : List (Nat × Nat × Nat × Nat)}
    (hown : s.vm.findClass own = some m.cls) (hlink : (Cond.methodLink own index y).before args s = true) (hinst : (Cond.instanceMethod y).before args s = true) (hsel : (Cond.selects C y y).before args s = true)
    (hcode : (Cond.codeWith y bytes maxL ret hh).before args s = true) (hy : y.cls ≠ "java/lang/invoke/MethodHandle" ∧ y.cls ≠ "java/lang/invoke/VarHandle")
    {W9 : Nat} {Pre : Pt → Array Value → Prop} {Post : Pt → Array Value → Option Value → Pt → Prop} {PostX : Pt → Array Value → Addr → Pt → Prop} (hK : vx_Back l R p e below s args y 3 W9 Pre Post PostX)
    {b : Addr} {cellB : Cell} (hcell : T.heap[b]? = some cellB) (hobj : cellB.vm.isStatics = false) (hcls : s.vm.findClass C = some cellB.cls)
    {g : JFrame} (hg : g.method = m) (hsize : g.locals.size = c.maxLocals) {argsL rest : List Value} (hlen : ∀ sig, parseMethodDescriptor y.desc = some sig → argsL.length = sig.parameters.length)
    (hstack : g.stack = argsL.reverse ++ .ref b :: rest) (hW : 2 * g.monitorRoom + (rest.map fun v => v.category).sum ≤ W9) (hdg : decode c.code g.pc = .ok (.invokevirtual index, 3))
    (hpre : ∀ vm₁, s.WarmedH vm₁ → Pre ⟨T.setVm vm₁, locs, cells, slots⟩ (Value.ref b :: argsL).toArray) :
    (∃ (v : Option Value) (vm₁ : Vm) (B : Pt), s.WarmedH vm₁ ∧ Stand p l e R s m args below meth c B.U B.locs B.cells B.slots ∧ Post ⟨T.setVm vm₁, locs, cells, slots⟩ (Value.ref b :: argsL).toArray v B ∧
      ∀ target, Steps p.tables e below (B.U.setTop { g with pc := g.pc + 3, stack := v.toList ++ rest }) target → Steps p.tables e below (T.setTop g) target) ∨
    (∃ (q : Addr) (vm₁ : Vm) (B : Pt), s.WarmedH vm₁ ∧ Stand p l e R s m args below meth c B.U B.locs B.cells B.slots ∧ PostX ⟨T.setVm vm₁, locs, cells, slots⟩ (Value.ref b :: argsL).toArray q B ∧
      Steps p.tables e below (T.setTop g) ((B.U.setTop { g with stack := rest }).pushFrame (.throwing q))) := by
  obtain ⟨mk, methM, hnamed, hmethM, hstM, habM⟩ := Cond.instanceMethod_spec hinst
  obtain ⟨m8, methM', cM, hn8, hmethM', -, -, -, -, -, -, hsigM⟩ := Cond.codeWith_spec hcode
  cases Option.some.inj (hn8.symm.trans hnamed)
  cases hmethM.symm.trans hmethM'
  obtain ⟨c2, r2, m2, q1, q2, q3, q4, kP, hkP, hkPi⟩ := Cond.selects_spec hsel
  cases hcls.symm.trans q1
  cases (State.methodFound?_of_named hnamed hy).symm.trans q2
  cases hnamed.symm.trans q3
  have hselP : selectMethod e.platform s.vm cellB.cls mk = .method mk := by rw [Launch.admits_selectMethod X.admits]; exact q4
  obtain ⟨vm₁, X₁, hstep₁⟩ := X.invokevirtual hexec hown hlink hnamed hmethM hstM hkP hkPi hy (a := b) (cell := cellB) hcell
    (fun z h => by rw [h] at hobj; cases hobj) hselP hmethM habM hkP hkPi (g := g) hg (argsL := argsL) (rest := rest) (hlen _ hsigM) hstack hdg
  rcases hK m meth c ⟨T.setVm vm₁, locs, cells, slots⟩ { g with stack := rest } (.invokevirtual index) mk (Value.ref b :: argsL).toArray X₁ hg hsize hdg hW (X₁.named hnamed) (hpre vm₁ X₁.warmed) with ⟨v, B, X', hpost, hsteps⟩ | ⟨q, B, X', hpost, hsteps⟩
  · exact Or.inl ⟨v, vm₁, B, X₁.warmed, X', hpost, fun target h => hstep₁ _ fun acts => by rw [doInvoke_state]; exact hsteps.trans h⟩
  · exact Or.inr ⟨q, vm₁, B, X₁.warmed, X', hpost, hstep₁ _ fun acts => by rw [doInvoke_state]; exact hsteps⟩
theorem vx_callSX (X : Stand p l e R s m args below meth c T locs cells slots) (hexec : p.tables.exec = Jvm.exec) {own : String} {index : Nat} {y : MethodName} {bytes : ByteArray} {maxL : Nat} {ret : Option FieldType} {hh : List (Nat × Nat × Nat × Nat)}
    (hown : s.vm.findClass own = some m.cls) (hlink : (Cond.methodLink own index y).before args s = true) (hstat : (Cond.static y).before args s = true) (hinit : (Cond.initialized y.cls).before args s = true)
    (hcode : (Cond.codeWith y bytes maxL ret hh).before args s = true) (hy : y.cls ≠ "java/lang/invoke/MethodHandle" ∧ y.cls ≠ "java/lang/invoke/VarHandle")
    {W9 : Nat} {Pre : Pt → Array Value → Prop} {Post : Pt → Array Value → Option Value → Pt → Prop} {PostX : Pt → Array Value → Addr → Pt → Prop} (hK : vx_Back l R p e below s args y 3 W9 Pre Post PostX)
    {g : JFrame} (hg : g.method = m) (hsize : g.locals.size = c.maxLocals) {argsL rest : List Value} (hlen : ∀ sig, parseMethodDescriptor y.desc = some sig → argsL.length = sig.parameters.length)
    (hstack : g.stack = argsL.reverse ++ rest) (hW : 2 * g.monitorRoom + (rest.map fun v => v.category).sum ≤ W9) (hdg : decode c.code g.pc = .ok (.invokestatic index, 3))
    (hpre : ∀ vm₁, s.WarmedH vm₁ → Pre ⟨T.setVm vm₁, locs, cells, slots⟩ argsL.toArray) :
    (∃ (v : Option Value) (vm₁ : Vm) (B : Pt), s.WarmedH vm₁ ∧ Stand p l e R s m args below meth c B.U B.locs B.cells B.slots ∧ Post ⟨T.setVm vm₁, locs, cells, slots⟩ argsL.toArray v B ∧
      ∀ target, Steps p.tables e below (B.U.setTop { g with pc := g.pc + 3, stack := v.toList ++ rest }) target → Steps p.tables e below (T.setTop g) target) ∨
    (∃ (q : Addr) (vm₁ : Vm) (B : Pt), s.WarmedH vm₁ ∧ Stand p l e R s m args below meth c B.U B.locs B.cells B.slots ∧ PostX ⟨T.setVm vm₁, locs, cells, slots⟩ argsL.toArray q B ∧
      Steps p.tables e below (T.setTop g) ((B.U.setTop { g with stack := rest }).pushFrame (.throwing q))) := by
  obtain ⟨mk, methM, cM, hnamed, hmethM, -, -, -, -, -, -, hsigM⟩ := Cond.codeWith_spec hcode
  have hstatic : methM.isStatic = true := Cond.static_spec hnamed hmethM hstat
  obtain ⟨kP, hkP, -⟩ := className_of_methodNamed hnamed
  have hinitP : kP.init = .initialized := Cond.initialized_spec (findClass_of_methodNamed hnamed) hkP hinit
  obtain ⟨vm₁, X₁, hstep₁⟩ := X.invokestatic hexec hown hlink hnamed hmethM hstatic hkP hinitP hy (g := g) hg (argsL := argsL) (rest := rest) (hlen _ hsigM) hstack hdg
  rcases hK m meth c ⟨T.setVm vm₁, locs, cells, slots⟩ { g with stack := rest } (.invokestatic index) mk argsL.toArray X₁ hg hsize hdg hW (X₁.named hnamed) (hpre vm₁ X₁.warmed) with ⟨v, B, X', hpost, hsteps⟩ | ⟨q, B, X', hpost, hsteps⟩
  · exact Or.inl ⟨v, vm₁, B, X₁.warmed, X', hpost, fun target h => hstep₁ _ fun acts => by rw [doInvoke_state]; exact hsteps.trans h⟩
  · exact Or.inr ⟨q, vm₁, B, X₁.warmed, X', hpost, hstep₁ _ fun acts => by rw [doInvoke_state]; exact hsteps⟩
theorem vx_callVW (X : Stand p l e R s m args below meth c T locs cells slots) (hexec : p.tables.exec = Jvm.exec) {own C : String} {index : Nat} {y : MethodName} {bytes : ByteArray} {maxL : Nat} {ret : Option FieldType} {hh : List (Nat × Nat × Nat × Nat)}
    (hown : s.vm.findClass own = some m.cls) (hlink : (Cond.methodLink own index y).before args s = true) (hinst : (Cond.instanceMethod y).before args s = true) (hsel : (Cond.selects C y y).before args s = true)
    (hcode : (Cond.codeWith y bytes maxL ret hh).before args s = true) (hy : y.cls ≠ "java/lang/invoke/MethodHandle" ∧ y.cls ≠ "java/lang/invoke/VarHandle")
    {W9 : Nat} {Pre : Pt → Array Value → Prop} {Post : Pt → Array Value → Option Value → Pt → Prop} (hK : Back l R p e below s args y 3 W9 Pre Post)
    {b : Addr} {cellB : Cell} (hcell : T.heap[b]? = some cellB) (hobj : cellB.vm.isStatics = false) (hcls : s.vm.findClass C = some cellB.cls)
    {g : JFrame} (hg : g.method = m) (hsize : g.locals.size = c.maxLocals) {argsL rest : List Value} (hlen : ∀ sig, parseMethodDescriptor y.desc = some sig → argsL.length = sig.parameters.length)
    (hstack : g.stack = argsL.reverse ++ .ref b :: rest) (hW : 2 * g.monitorRoom + (rest.map fun v => v.category).sum ≤ W9) (hdg : decode c.code g.pc = .ok (.invokevirtual index, 3))
    (hpre : ∀ vm₁, s.WarmedH vm₁ → Pre ⟨T.setVm vm₁, locs, cells, slots⟩ (Value.ref b :: argsL).toArray) :
    ∃ (v : Option Value) (vm₁ : Vm) (B : Pt), s.WarmedH vm₁ ∧ Stand p l e R s m args below meth c B.U B.locs B.cells B.slots ∧ Post ⟨T.setVm vm₁, locs, cells, slots⟩ (Value.ref b :: argsL).toArray v B ∧
      ∀ target, Steps p.tables e below (B.U.setTop { g with pc := g.pc + 3, stack := v.toList ++ rest }) target → Steps p.tables e below (T.setTop g) target := by
  obtain ⟨mk, methM, hnamed, hmethM, hstM, habM⟩ := Cond.instanceMethod_spec hinst
  obtain ⟨m8, methM', cM, hn8, hmethM', -, -, -, -, -, -, hsigM⟩ := Cond.codeWith_spec hcode
  cases Option.some.inj (hn8.symm.trans hnamed)
  cases hmethM.symm.trans hmethM'
  obtain ⟨c2, r2, m2, q1, q2, q3, q4, kP, hkP, hkPi⟩ := Cond.selects_spec hsel
  cases hcls.symm.trans q1
  cases (State.methodFound?_of_named hnamed hy).symm.trans q2
  cases hnamed.symm.trans q3
  have hselP : selectMethod e.platform s.vm cellB.cls mk = .method mk := by rw [Launch.admits_selectMethod X.admits]; exact q4
  obtain ⟨vm₁, X₁, hstep₁⟩ := X.invokevirtual hexec hown hlink hnamed hmethM hstM hkP hkPi hy (a := b) (cell := cellB) hcell
    (fun z h => by rw [h] at hobj; cases hobj) hselP hmethM habM hkP hkPi (g := g) hg (argsL := argsL) (rest := rest) (hlen _ hsigM) hstack hdg
  obtain ⟨v, B, X', hpost, hsteps⟩ := hK m meth c ⟨T.setVm vm₁, locs, cells, slots⟩ { g with stack := rest } (.invokevirtual index) mk (Value.ref b :: argsL).toArray X₁ hg hsize hdg hW (X₁.named hnamed) (hpre vm₁ X₁.warmed)
  exact ⟨v, vm₁, B, X₁.warmed, X', hpost, fun target h => hstep₁ _ fun acts => by rw [doInvoke_state]; exact hsteps.trans h⟩
abbrev vx_CVW (R : Room) (s : State) (args : Array Value) (own C : String) (index : Nat) (y : MethodName) (bytes : ByteArray) (maxL : Nat) (ret : Option FieldType) (hh : List (Nat × Nat × Nat × Nat)) (ws : List Cond) (rm : Room) (mc ms n : Nat) : Prop :=
  (rm.cells = mc ∧ rm.slots = ms ∧ rm.frames + 1 ≤ R.frames ∧ 8 + (maxL + 11) + rm.locals ≤ R.locals ∧ (∀ w ∈ ws, ∀ (a' : Array Value) (U : State), s.WarmedH U.vm → w.before a' U = true) ∧ Cond.codeWith y bytes maxL ret hh ∈ ws) ∧
  (Cond.codeWith y bytes maxL ret hh).before args s = true ∧ (Cond.initialized y.cls).before args s = true ∧ (y.cls ≠ "java/lang/invoke/MethodHandle" ∧ y.cls ≠ "java/lang/invoke/VarHandle") ∧
  (∀ sig, parseMethodDescriptor y.desc = some sig → n = sig.parameters.length) ∧ (Cond.methodLink own index y).before args s = true ∧ (Cond.instanceMethod y).before args s = true ∧ (Cond.selects C y y).before args s = true
theorem vx_cwVW {own C : String} {index maxL mc ms : Nat} {y : MethodName} {bytes : ByteArray} {ret : Option FieldType} {hh : List (Nat × Nat × Nat × Nat)} {Ts ws ws' : List Cond} {rm : Room} (n : Nat) (ht : ∀ w ∈ Ts, w.before args s = true) (hT : GoodIn Ts (wsV own index C y ws)) (hw : ws = Cond.codeWith y bytes maxL ret hh :: ws') (hrc : rm.cells = mc) (hrs : rm.slots = ms)
    (hd : y.cls = C ∧ y.cls ≠ "java/lang/invoke/MethodHandle" ∧ y.cls ≠ "java/lang/invoke/VarHandle" ∧ (parseMethodDescriptor y.desc).map (fun d => d.parameters.length) = some n) (hR : rm.frames + 1 ≤ R.frames ∧ 8 + (maxL + 11) + rm.locals ≤ R.locals) :
    vx_CVW R s args own C index y bytes maxL ret hh ws rm mc ms n := by
  obtain ⟨hC, hd⟩ := hd
  subst hC
  have ok : ∀ w ∈ wsV own index y.cls y ws, w.before args s = true := fun w h => ht w (hT w h).1
  have hG : GoodIn Ts ws := fun w h => hT w (by unfold wsV; exact List.mem_append_right _ h)
  have hc : Cond.codeWith y bytes maxL ret hh ∈ ws := by rw [hw]; exact List.mem_cons_self
  refine ⟨⟨hrc, hrs, hR.1, hR.2, pay_in ht hG, hc⟩, ht _ (hG _ hc).1, ok _ (by simp [wsV]), ⟨hd.1, hd.2.1⟩, fun sig h => ?_, ok _ (by simp [wsV]), ok _ (by simp [wsV]), ok _ (by simp [wsV])⟩
  have h2 := hd.2.2
  rw [h] at h2
  exact (Option.some.inj h2).symm
theorem vx_runVW {y : MethodName} {bytes cc : ByteArray} {maxL nL mc ms n index : Nat} {ret : Option FieldType} {hh : List (Nat × Nat × Nat × Nat)} {ws : List Cond} {rm : Room} {Pc : Array Value → State → Prop} {Qc : Array Value → State → Outcome → State → Prop} {free : Addr → Prop} {Ts : List Cond} {own C : String} {b : Addr} {As rest : List Value} {g : JFrame}
    (S : CallFix p m c cc nL s args Ts own) (hM : Met l y ws rm Pc Qc mc ms free) (cw : vx_CVW R s args own C index y bytes maxL ret hh ws rm mc ms n) (hp : PreV s H C b Pc As)
    (hg : g.method = m) (hn : As.length = n) (hsize : g.locals.size = nL) (hstack : g.stack = As.reverse ++ .ref b :: rest) (hW : 2 * g.monitorRoom + (rest.map fun v => v.category).sum ≤ 8) (hdg : decode cc g.pc = .ok (.invokevirtual index, 3)) (hf : cells + mc ≤ R.cells ∧ slots + ms ≤ R.slots) :
    va_Run p l e R s m args below meth c H locs cells slots mc ms g rest (Qc (Value.ref b :: As).toArray) free := by
  obtain ⟨⟨hrc, hrs, hfr, hlo, hws, hcw⟩, hcode, hini, hy, hlen, hl, hin, hse⟩ := cw
  have hK : Back l R p e below s args y 3 8 (PreOf R mc ms Pc) (PostOf Qc mc ms free) := va_backW (hh := hh) (bytes := bytes) (maxL := maxL) (ret := ret) hM hp.1 hrc hrs hfr hlo hws hcw (fun a' U hW => word_at hW (Or.inl (by first | rfl | simp [Cond.onTables, Cond.keeps, Cond.steady])) hini)
  obtain ⟨hx, hb, hml, ho, -⟩ := S
  obtain ⟨-, ⟨cellB, hcB, hoB, hclB⟩, hPc⟩ := hp
  intro T hT X
  obtain ⟨v, vm₁, ⟨U', l2, c2, s2⟩, hW₁, X', ⟨g', mk, t, L, e1, e2, hq, h1, hL, h2, h3⟩, st⟩ := vx_callVW X hx (C := C) (hh := hh) (bytes := bytes) (maxL := maxL) (ret := ret) ho hl hin hse hcode hy hK (by rw [hT]; exact hcB) hoB hclB hg (hsize.trans hml.symm) (argsL := As) (rest := rest) (fun sig h => hn.trans (hlen sig h)) hstack hW (by rw [hb]; exact hdg)
    (fun vm₁ hW₁ => ⟨hf.1, hf.2, hPc (T.setVm vm₁) hT hW₁⟩)
  dsimp only [Pt.U, Pt.locs, Pt.cells, Pt.slots] at X' e1 e2 h1 h2 h3 st
  subst h1; subst h2; subst h3
  exact ⟨v, (T.setVm vm₁).calling g' mk (Value.ref b :: As).toArray, t, U', L, hT, X', hL, e1, e2, hq, st⟩
section
variable {y : MethodName} {bytes cc : ByteArray} {maxL nL mc ms n index : Nat} {ret : Option FieldType} {ws : List Cond} {rm : Room} {Pc : Array Value → State → Prop} {Qc : Array Value → State → Outcome → State → Prop} {XC : String → State → State → Prop} {free : Addr → Prop} {Ts : List Cond} {own C : String} {b : Addr} {As rest : List Value} {g : JFrame}
theorem vx_runVX {hh : List (Nat × Nat × Nat × Nat)} (S : CallFix p m c cc nL s args Ts own) (hM : vx_Met l y ws rm Pc Qc XC mc ms free) (cw : vx_CVW R s args own C index y bytes maxL ret hh ws rm mc ms n) (hp : PreV s H C b Pc As)
    (hg : g.method = m) (hn : As.length = n) (hsize : g.locals.size = nL) (hstack : g.stack = As.reverse ++ .ref b :: rest) (hW : 2 * g.monitorRoom + (rest.map fun v => v.category).sum ≤ 8) (hdg : decode cc g.pc = .ok (.invokevirtual index, 3)) (hf : cells + mc ≤ R.cells ∧ slots + ms ≤ R.slots) :
    vx_Run p l e R s m args below meth c H locs cells slots mc ms g rest (Qc (Value.ref b :: As).toArray) XC free := by
  obtain ⟨⟨hrc, hrs, hfr, hlo, hws, hcw⟩, hcode, hini, hy, hlen, hl, hin, hse⟩ := cw
  have hK : vx_Back l R p e below s args y 3 8 (PreOf R mc ms Pc) (PostOf Qc mc ms free) (vx_Post XC mc ms free) := vx_backW (hh := hh) (bytes := bytes) (maxL := maxL) (ret := ret) hM hp.1 hrc hrs hfr hlo hws hcw (fun a' U hW => word_at hW (Or.inl (by first | rfl | simp [Cond.onTables, Cond.keeps, Cond.steady])) hini)
  obtain ⟨hx, hb, hml, ho, -⟩ := S
  obtain ⟨-, ⟨cellB, hcB, hoB, hclB⟩, hPc⟩ := hp
  intro T hT X
  rcases vx_callVX X hx (C := C) (hh := hh) (bytes := bytes) (maxL := maxL) (ret := ret) ho hl hin hse hcode hy hK (by rw [hT]; exact hcB) hoB hclB hg (hsize.trans hml.symm) (argsL := As) (rest := rest) (fun sig h => hn.trans (hlen sig h)) hstack hW (by rw [hb]; exact hdg)
    (fun vm₁ hW₁ => ⟨hf.1, hf.2, hPc (T.setVm vm₁) hT hW₁⟩) with ⟨v, vm₁, ⟨U', l2, c2, s2⟩, hW₁, X', ⟨g', mk, t, L, e1, e2, hq, h1, hL, h2, h3⟩, st⟩ | ⟨q, vm₁, ⟨U', l2, c2, s2⟩, hW₁, X', ⟨g', mk, t, L, E, ce, e1, e2, hq, hce, hcv, hcl, h1, hL, h2, h3⟩, st⟩
  · dsimp only [Pt.U, Pt.locs, Pt.cells, Pt.slots] at X' e1 e2 h1 h2 h3 st
    subst h1; subst h2; subst h3
    exact Or.inl ⟨v, (T.setVm vm₁).calling g' mk (Value.ref b :: As).toArray, t, U', L, hT, X', hL, e1, e2, hq, st⟩
  · dsimp only [Pt.U, Pt.locs, Pt.cells, Pt.slots] at X' e1 e2 h1 h2 h3 st hcl
    subst h1; subst h2; subst h3
    exact Or.inr ⟨q, (T.setVm vm₁).calling g' mk (Value.ref b :: As).toArray, t, U', L, E, ce, hT, X', hL, e1, e2, hq, hce, hcv, vx_cls hW₁ hcl, st⟩
theorem vx_runSX {hh : List (Nat × Nat × Nat × Nat)} (S : CallFix p m c cc nL s args Ts own) (hM : vx_Met l y ws rm Pc Qc XC mc ms free) (cw : vx_CSW R s args own index y bytes maxL ret hh ws rm mc ms n) (hp : PreS s H Pc As)
    (hg : g.method = m) (hn : As.length = n) (hsize : g.locals.size = nL) (hstack : g.stack = As.reverse ++ rest) (hW : 2 * g.monitorRoom + (rest.map fun v => v.category).sum ≤ 8) (hdg : decode cc g.pc = .ok (.invokestatic index, 3)) (hf : cells + mc ≤ R.cells ∧ slots + ms ≤ R.slots) :
    vx_Run p l e R s m args below meth c H locs cells slots mc ms g rest (Qc As.toArray) XC free := by
  obtain ⟨⟨hrc, hrs, hfr, hlo, hws, hcw⟩, hcode, hini, hy, hlen, hl, hstt⟩ := cw
  have hK : vx_Back l R p e below s args y 3 8 (PreOf R mc ms Pc) (PostOf Qc mc ms free) (vx_Post XC mc ms free) := vx_backW (hh := hh) (bytes := bytes) (maxL := maxL) (ret := ret) hM hp.1 hrc hrs hfr hlo hws hcw (fun a' U hW => word_at hW (Or.inl (by first | rfl | simp [Cond.onTables, Cond.keeps, Cond.steady])) hini)
  obtain ⟨hx, hb, hml, ho, -⟩ := S
  intro T hT X
  rcases vx_callSX X hx (hh := hh) (bytes := bytes) (maxL := maxL) (ret := ret) ho hl hstt hini hcode hy hK hg (hsize.trans hml.symm) (argsL := As) (rest := rest) (fun sig h => hn.trans (hlen sig h)) hstack hW (by rw [hb]; exact hdg)
    (fun vm₁ hW₁ => ⟨hf.1, hf.2, hp.2 (T.setVm vm₁) hT hW₁⟩) with ⟨v, vm₁, ⟨U', l2, c2, s2⟩, hW₁, X', ⟨g', mk, t, L, e1, e2, hq, h1, hL, h2, h3⟩, st⟩ | ⟨q, vm₁, ⟨U', l2, c2, s2⟩, hW₁, X', ⟨g', mk, t, L, E, ce, e1, e2, hq, hce, hcv, hcl, h1, hL, h2, h3⟩, st⟩
  · dsimp only [Pt.U, Pt.locs, Pt.cells, Pt.slots] at X' e1 e2 h1 h2 h3 st
    subst h1; subst h2; subst h3
    exact Or.inl ⟨v, (T.setVm vm₁).calling g' mk As.toArray, t, U', L, hT, X', hL, e1, e2, hq, st⟩
  · dsimp only [Pt.U, Pt.locs, Pt.cells, Pt.slots] at X' e1 e2 h1 h2 h3 st hcl
    subst h1; subst h2; subst h3
    exact Or.inr ⟨q, (T.setVm vm₁).calling g' mk As.toArray, t, U', L, E, ce, hT, X', hL, e1, e2, hq, hce, hcv, vx_cls hW₁ hcl, st⟩
end
end VXH
theorem vx_ofWH {l : Launch} {y : MethodName} {ws ws' : List Cond} {rm : Room} {Pc : Array Value → State → Prop} {Qc : Array Value → State → Outcome → State → Prop} {XC : String → State → State → Prop} {mc ms : Nat} {free : Addr → Prop} {cc : ByteArray} {maxL : Nat} {ret : Option FieldType} {hh : List (Nat × Nat × Nat × Nat)}
    (hy : plainName y.cls = true) (hw : ws = Cond.codeWith y cc maxL ret hh :: ws')
    (body : ∀ p e s m args below meth c s₁, BodyLoose p l y (headSpec ws rm) cc maxL ret e s m args below meth c s₁ → c.maxLocals = maxL → Pc args s →
      W p l e (headSpec ws rm).room s m args below meth c s.heap [] 0 0 (vx_MQ below Qc XC args s mc ms free) (entryFrame m args maxL)) : vx_Met l y ws rm Pc Qc XC mc ms free := by
  refine MetFree.of_bodyS (code := cc) (maxLocals := maxL) (ret := ret) hy ?_ ?_
  · intro args s m h hn
    obtain ⟨m9, meth, c, hn9, h1, h2, h3, h4, -, h5, h6, -⟩ := Cond.codeWith_spec (atoms_spec (ws := ws) h _ (by rw [hw]; exact List.mem_cons_self))
    cases hn.symm.trans hn9
    exact ⟨meth, c, h1, h2, h3, h4, h5, h6⟩
  · intro p e s m args below meth c s₁ B hml hP _
    have hh0 : s₁.heap = s.heap := by rw [B.state]; rfl
    obtain ⟨t, a1, o, b1, b2, b3⟩ := body p e s m args below meth c s₁ B hml hP s₁ hh0 (Stand.of_body B)
    exact ⟨t, o, a1, b1, b2, b3⟩
/-! ===== END ===== -/
end
section
/-! AM: an abstract machine over the printed instructions: logical addresses, cells as functions; no heap, no tables. Its runs are shown to be the machine's own (part 05); all later reasoning is about it. -/
/-- counters (cells made that are named, all cells, all slots), ints, longs, references (0: null, k + 1: cell k) -/
abbrev aS : Type := (Nat × Nat × Nat) × (Nat → Nat → Int32) × (Nat → Nat → Int64) × (Nat → Nat → Nat)
/-- what a method comes to: none: it threw; some: its answer; and the state behind it -/
abbrev aO : Type := Option (Option Value) × aS
/-- an instruction: pc, itself, its length, and what it links to -/
abbrev aN : Type := Nat × Instr × Nat × Nat × Nat × Nat × Int
/-- a method: code, how many values it takes, its locals, its kind of answer, its rank -/
abbrev aM : Type := List aN × Nat × Nat × Nat × Nat
def aU {α : Type} (f : Nat → Nat → α) (a i : Nat) (v : α) : Nat → Nat → α := fun a' i' => if a' = a then (if i' = i then v else f a' i') else f a' i'
def aRf (p : Nat) : Value := match p with
  | 0 => .null
  | k + 1 => .ref k
def aNo : Value := .retAddr 0
/-- a store into the locals: a long ahead that is cut loses its value -/
def aCut (L : List Value) (i : Nat) : List Value := match i with
  | 0 => L
  | j + 1 => match L[j]? with
    | some (.long _) => L.set j aNo
    | _ => L
def aSt1 (L : List Value) (i : Nat) (v : Value) : List Value := (aCut L i).set i v
def aSt2 (L : List Value) (i : Nat) (v : Value) : List Value := ((aCut L i).set (i + 1) aNo).set i v
def aSlots : List Value → List Value
  | [] => []
  | .long x :: r => .long x :: aNo :: aSlots r
  | v :: r => v :: aSlots r
def aLoc (n : Nat) (args : List Value) : List Value := aSlots args ++ List.replicate (n - (aSlots args).length) aNo
def aFind : List aN → Nat → Option (Instr × Nat × Nat × Nat × Nat × Int)
  | [], _ => none
  | (p, i) :: t, pc => if p = pc then some i else aFind t pc
def aBi (o : Option aO) (f : Int32 → aS → Option aO) : Option aO := match o with
  | some (some (some (.int x)), σ) => f x σ
  | _ => none
def aBl (o : Option aO) (f : Int64 → aS → Option aO) : Option aO := match o with
  | some (some (some (.long x)), σ) => f x σ
  | _ => none
def aBv (o : Option aO) (f : aS → Option aO) : Option aO := match o with
  | some (some none, σ) => f σ
  | _ => none
/-- .. and where a handler stands -/
def aHi (o : Option aO) (f : Int32 → aS → Option aO) (h : aS → Option aO) : Option aO := match o with
  | some (some (some (.int x)), σ) => f x σ
  | some (none, σ) => h σ
  | _ => none
def aHl (o : Option aO) (f : Int64 → aS → Option aO) (h : aS → Option aO) : Option aO := match o with
  | some (some (some (.long x)), σ) => f x σ
  | some (none, σ) => h σ
  | _ => none
def aMi (x y : Int32) : Int32 := if x ≤ y then x else y
/-- so many cells and slots more; nm: named ones -/
def aNew (σ : aS) (nm n : Nat) : aS := ((σ.1.1 + nm, σ.1.2.1 + 1, σ.1.2.2 + n), σ.2)
def aPI (σ : aS) (a i : Nat) (x : Int32) : aS := (σ.1, aU σ.2.1 a i x, σ.2.2.1, σ.2.2.2)
def aPJ (σ : aS) (a i : Nat) (x : Int64) : aS := (σ.1, σ.2.1, aU σ.2.2.1 a i x, σ.2.2.2)
def aPP (σ : aS) (a i : Nat) (x : Nat) : aS := (σ.1, σ.2.1, σ.2.2.1, aU σ.2.2.2 a i x)
/-- n places of the row b, from j on, become those of a, from i on -/
def aCp (σ : aS) (a i b j n : Nat) : aS := (σ.1, (fun a' i' => if a' = b then (if j ≤ i' ∧ i' < j + n then σ.2.1 a (i + (i' - j)) else σ.2.1 a' i') else σ.2.1 a' i'), σ.2.2.1, σ.2.2.2)
def aTgt (pc : Nat) (off : Int) : Nat := ((pc : Int) + off).toNat
def aKind : ArrayType → Nat
  | .int => 14
  | .long => 15
  | .byte => 12
  | .char => 13
  | .boolean => 16
  | _ => 99

/-- what the cells are: kind (a class, or a kind of row), and how many places -/
def aLayT : List (Nat × Nat) := [(20, 0), (21, 0), (21, 0), (22, 17), (22, 8), (23, 0), (10, 16), (9, 2), (13, 80), (3, 4), (6, 5), (14, 40), (4, 2), (15, 8), (0, 12), (14, 8), (14, 8), (14, 8), (14, 8), (14, 8), (14, 8), (14, 8), (14, 32), (8, 1), (14, 32), (8, 1), (14, 32), (8, 1), (14, 32), (2, 3), (14, 384), (14, 64), (16, 2), (5, 4), (14, 40), (14, 8), (14, 40), (5, 4), (14, 40), (14, 8), (14, 40), (7, 5), (1, 3), (14, 12), (14, 12), (14, 90), (11, 41), (14, 39), (14, 8), (14, 8), (14, 32), (14, 32), (12, 80), (15, 16), (14, 32), (12, 40), (12, 40), (14, 8), (14, 468), (14, 39), (14, 39), (14, 240), (14, 12), (14, 12), (14, 78), (16, 2), (14, 2), (15, 1)]
def aKd (a : Nat) : Nat := (aLayT.getD a (99, 0)).1
def aLn (a : Nat) : Nat := (aLayT.getD a (99, 0)).2
def an (pc : Nat) (i : Instr) (len : Nat) : aN := (pc, i, len, 0, 0, 0, 0)
def al (pc : Nat) (i : Instr) (len t a b : Nat) (z : Int) : aN := (pc, i, len, t, a, b, z)
-- 0: java/lang/String.length()I
def aC0 : List aN := [an 0 (.aload_n 0) 1, al 1 (.getfield 9) 3 30 0 0 0, an 4 .arraylength 1, an 5 (.aload_n 0) 1, al 6 (.invokevirtual 335) 3 2 1 21 0, an 9 .ishr 1, an 10 .ireturn 1]
-- 1: java/lang/String.coder()B
def aC1 : List aN := [al 0 (.getstatic 38) 3 31 0 0 1, an 3 (.ifCond .eq 10) 3, an 6 (.aload_n 0) 1, al 7 (.getfield 15) 3 30 1 0 0, an 10 (.goto 4) 3, an 13 (.iconst 1) 1, an 14 .ireturn 1]
-- 2: java/lang/String.charAt(I)C
def aC2 : List aN := [an 0 (.aload_n 0) 1, al 1 (.invokevirtual 492) 3 2 3 21 0, an 4 (.ifCond .eq 12) 3, an 7 (.aload_n 0) 1, al 8 (.getfield 9) 3 30 0 0 0, an 11 (.iload_n 1) 1, al 12 (.invokestatic 495) 3 1 4 0 0, an 15 .ireturn 1, an 16 (.aload_n 0) 1, al 17 (.getfield 9) 3 30 0 0 0, an 20 (.iload_n 1) 1, al 21 (.invokestatic 498) 3 99 0 0 0, an 24 .ireturn 1]
-- 3: java/lang/String.isLatin1()Z
def aC3 : List aN := [al 0 (.getstatic 38) 3 31 0 0 1, an 3 (.ifCond .eq 14) 3, an 6 (.aload_n 0) 1, al 7 (.getfield 15) 3 30 1 0 0, an 10 (.ifCond .ne 7) 3, an 13 (.iconst 1) 1, an 14 (.goto 4) 3, an 17 (.iconst 0) 1, an 18 .ireturn 1]
-- 4: java/lang/StringLatin1.charAt([BI)C
def aC4 : List aN := [an 0 (.iload_n 1) 1, an 1 (.aload_n 0) 1, an 2 .arraylength 1, al 3 (.invokestatic 9) 3 1 5 0 0, an 6 (.aload_n 0) 1, an 7 (.iload_n 1) 1, an 8 .baload 1, an 9 (.sipush 255) 3, an 12 .iand 1, an 13 .i2c 1, an 14 .ireturn 1]
-- 5: java/lang/String.checkIndex(II)V
def aC5 : List aN := [an 0 (.iload_n 0) 1, an 1 (.iload_n 1) 1, al 2 (.getstatic 1053) 3 32 0 0 0, al 5 (.invokestatic 1059) 3 1 6 0 0, an 8 .pop 1, an 9 .return_ 1]
-- 6: jdk/internal/util/Preconditions.checkIndex(IILjava/util/function/BiFunction;)I
def aC6 : List aN := [an 0 (.iload_n 0) 1, an 1 (.ifCond .lt 8) 3, an 4 (.iload_n 0) 1, an 5 (.iload_n 1) 1, an 6 (.if_icmp .lt 10) 3, an 9 (.aload_n 2) 1, an 10 (.iload_n 0) 1, an 11 (.iload_n 1) 1, al 12 (.invokestatic 95) 3 99 0 0 0, an 15 .athrow 1, an 16 (.iload_n 0) 1, an 17 .ireturn 1]
-- 7: java/lang/String.indexOf(I)I
def aC7 : List aN := [an 0 (.aload_n 0) 1, an 1 (.iload_n 1) 1, an 2 (.iconst 0) 1, al 3 (.invokevirtual 633) 3 2 8 21 0, an 6 .ireturn 1]
-- 8: java/lang/String.indexOf(II)I
def aC8 : List aN := [an 0 (.aload_n 0) 1, al 1 (.invokevirtual 492) 3 2 3 21 0, an 4 (.ifCond .eq 19) 3, an 7 (.aload_n 0) 1, al 8 (.getfield 9) 3 30 0 0 0, an 11 (.iload_n 1) 1, an 12 (.iload_n 2) 1, an 13 (.aload_n 0) 1, al 14 (.invokevirtual 505) 3 2 0 21 0, al 17 (.invokestatic 637) 3 1 9 0 0, an 20 (.goto 16) 3, an 23 (.aload_n 0) 1, al 24 (.getfield 9) 3 30 0 0 0, an 27 (.iload_n 1) 1, an 28 (.iload_n 2) 1, an 29 (.aload_n 0) 1, al 30 (.invokevirtual 505) 3 2 0 21 0, al 33 (.invokestatic 640) 3 99 0 0 0, an 36 .ireturn 1]
-- 9: java/lang/StringLatin1.indexOf([BIII)I
def aC9 : List aN := [an 0 (.iload_n 1) 1, al 1 (.invokestatic 88) 3 1 10 0 0, an 4 (.ifCond .ne 5) 3, an 7 (.iconst (-1)) 1, an 8 .ireturn 1, an 9 (.iload_n 2) 1, an 10 (.iconst 0) 1, al 11 (.invokestatic 92) 3 17 0 0 0, an 14 (.istore_n 2) 1, an 15 (.iload_n 3) 1, an 16 (.aload_n 0) 1, an 17 .arraylength 1, al 18 (.invokestatic 38) 3 18 0 0 0, an 21 (.istore_n 3) 1, an 22 (.iload_n 2) 1, an 23 (.iload_n 3) 1, an 24 (.if_icmp .lt 5) 3, an 27 (.iconst (-1)) 1, an 28 .ireturn 1, an 29 (.aload_n 0) 1, an 30 (.iload_n 1) 1, an 31 (.iload_n 2) 1, an 32 (.iload_n 3) 1, al 33 (.invokestatic 95) 3 1 11 0 0, an 36 .ireturn 1]
-- 10: java/lang/StringLatin1.canEncode(I)Z
def aC10 : List aN := [an 0 (.iload_n 0) 1, an 1 (.ifCond .lt 14) 3, an 4 (.iload_n 0) 1, an 5 (.sipush 255) 3, an 8 (.if_icmp .gt 7) 3, an 11 (.iconst 1) 1, an 12 (.goto 4) 3, an 15 (.iconst 0) 1, an 16 .ireturn 1]
-- 11: java/lang/StringLatin1.indexOfChar([BIII)I
def aC11 : List aN := [an 0 (.iload_n 1) 1, an 1 .i2b 1, an 2 (.istore 4) 2, an 4 (.iload_n 2) 1, an 5 (.istore 5) 2, an 7 (.iload 5) 2, an 9 (.iload_n 3) 1, an 10 (.if_icmp .ge 21) 3, an 13 (.aload_n 0) 1, an 14 (.iload 5) 2, an 16 .baload 1, an 17 (.iload 4) 2, an 19 (.if_icmp .ne 6) 3, an 22 (.iload 5) 2, an 24 .ireturn 1, an 25 (.iinc 5 1) 3, an 28 (.goto (-21)) 3, an 31 (.iconst (-1)) 1, an 32 .ireturn 1]
-- 12: java/lang/Integer.bitCount(I)I
def aC12 : List aN := [an 0 (.iload_n 0) 1, an 1 (.iload_n 0) 1, an 2 (.iconst 1) 1, an 3 .iushr 1, al 4 (.ldc_w 265) 3 14 0 0 1431655765, an 7 .iand 1, an 8 .isub 1, an 9 (.istore_n 0) 1, an 10 (.iload_n 0) 1, al 11 (.ldc_w 266) 3 14 0 0 858993459, an 14 .iand 1, an 15 (.iload_n 0) 1, an 16 (.iconst 2) 1, an 17 .iushr 1, al 18 (.ldc_w 266) 3 14 0 0 858993459, an 21 .iand 1, an 22 .iadd 1, an 23 (.istore_n 0) 1, an 24 (.iload_n 0) 1, an 25 (.iload_n 0) 1, an 26 (.iconst 4) 1, an 27 .iushr 1, an 28 .iadd 1, al 29 (.ldc_w 267) 3 14 0 0 252645135, an 32 .iand 1, an 33 (.istore_n 0) 1, an 34 (.iload_n 0) 1, an 35 (.iload_n 0) 1, an 36 (.bipush 8) 2, an 38 .iushr 1, an 39 .iadd 1, an 40 (.istore_n 0) 1, an 41 (.iload_n 0) 1, an 42 (.iload_n 0) 1, an 43 (.bipush 16) 2, an 45 .iushr 1, an 46 .iadd 1, an 47 (.istore_n 0) 1, an 48 (.iload_n 0) 1, an 49 (.bipush 63) 2, an 51 .iand 1, an 52 .ireturn 1]
-- 13: BluesAndGreens.<init>()V
def aC13 : List aN := [an 0 (.aload_n 0) 1, al 1 (.invokespecial 3) 3 10 0 0 0, an 4 (.aload_n 0) 1, al 5 (.new 9) 3 12 9 2 0, an 8 .dup 1, al 9 (.invokespecial 11) 3 3 14 9 0, al 12 (.putfield 12) 3 20 10 4 0, an 15 (.aload_n 0) 1, al 16 (.new 16) 3 12 3 4 0, an 19 .dup 1, an 20 (.aload_n 0) 1, al 21 (.getfield 12) 3 20 10 4 0, al 24 (.invokespecial 18) 3 3 15 3 0, al 27 (.putfield 21) 3 20 10 12 0, an 30 (.aload_n 0) 1, al 31 (.new 25) 3 12 6 5 0, an 34 .dup 1, an 35 (.aload_n 0) 1, al 36 (.getfield 21) 3 20 10 12 0, al 39 (.invokespecial 27) 3 3 16 6 0, al 42 (.putfield 30) 3 20 10 20 0, an 45 (.aload_n 0) 1, al 46 (.new 34) 3 12 4 2 0, an 49 .dup 1, al 50 (.invokespecial 36) 3 3 17 4 0, al 53 (.putfield 37) 3 20 10 28 0, an 56 (.aload_n 0) 1, al 57 (.new 41) 3 12 0 12 0, an 60 .dup 1, al 61 (.invokespecial 43) 3 3 18 0 0, al 64 (.putfield 44) 3 20 10 36 0, an 67 (.aload_n 0) 1, al 68 (.new 48) 3 12 8 1 0, an 71 .dup 1, al 72 (.invokespecial 50) 3 3 19 8 0, al 75 (.putfield 51) 3 20 10 44 0, an 78 (.aload_n 0) 1, al 79 (.new 48) 3 12 8 1 0, an 82 .dup 1, al 83 (.invokespecial 50) 3 3 19 8 0, al 86 (.putfield 55) 3 20 10 52 0, an 89 (.aload_n 0) 1, al 90 (.new 48) 3 12 8 1 0, an 93 .dup 1, al 94 (.invokespecial 50) 3 3 19 8 0, al 97 (.putfield 58) 3 20 10 60 0, an 100 (.aload_n 0) 1, al 101 (.new 61) 3 12 2 3 0, an 104 .dup 1, al 105 (.invokespecial 63) 3 3 20 2 0, al 108 (.putfield 64) 3 20 10 68 0, an 111 (.aload_n 0) 1, an 112 (.bipush 64) 2, an 114 (.newarray .int) 2, al 116 (.putfield 68) 3 20 10 76 0, an 119 (.aload_n 0) 1, an 120 (.iconst 2) 1, an 121 (.newarray .boolean) 2, al 123 (.putfield 72) 3 20 10 84 0, an 126 (.aload_n 0) 1, al 127 (.new 76) 3 12 5 4 0, an 130 .dup 1, al 131 (.invokespecial 78) 3 3 21 5 0, al 134 (.putfield 79) 3 20 10 92 0, an 137 (.aload_n 0) 1, al 138 (.new 76) 3 12 5 4 0, an 141 .dup 1, al 142 (.invokespecial 78) 3 3 21 5 0, al 145 (.putfield 83) 3 20 10 100 0, an 148 (.aload_n 0) 1, al 149 (.new 86) 3 12 7 5 0, an 152 .dup 1, al 153 (.invokespecial 88) 3 5 22 7 0, al 156 (.putfield 89) 3 20 10 108 0, an 159 (.aload_n 0) 1, al 160 (.new 93) 3 12 1 3 0, an 163 .dup 1, al 164 (.invokespecial 95) 3 3 23 1 0, al 167 (.putfield 96) 3 20 10 116 0, an 170 (.aload_n 0) 1, an 171 (.bipush 90) 2, an 173 (.newarray .int) 2, al 175 (.putfield 100) 3 20 10 124 0, an 178 (.aload_n 0) 1, an 179 (.aload_n 0) 1, al 180 (.getfield 79) 3 20 10 92 0, al 183 (.invokevirtual 103) 3 2 24 10 0, an 186 .pop 1, an 187 .return_ 1]
-- 14: BluesAndGreens$Text.<init>()V
def aC14 : List aN := [an 0 (.aload_n 0) 1, al 1 (.invokespecial 3) 3 10 0 0 0, an 4 (.aload_n 0) 1, an 5 (.bipush 80) 2, an 7 (.newarray .char) 2, al 9 (.putfield 9) 3 20 9 4 0, an 12 .return_ 1]
-- 15: BluesAndGreens$Reader.<init>(LBluesAndGreens$Text;)V
def aC15 : List aN := [an 0 (.aload_n 0) 1, al 1 (.invokespecial 3) 3 10 0 0 0, an 4 (.aload_n 0) 1, an 5 (.aload_n 1) 1, al 6 (.putfield 9) 3 20 3 4 0, an 9 .return_ 1]
-- 16: BluesAndGreens$RuleReader.<init>(LBluesAndGreens$Reader;)V
def aC16 : List aN := [an 0 (.aload_n 0) 1, al 1 (.invokespecial 3) 3 10 0 0 0, an 4 (.aload_n 0) 1, an 5 (.aload_n 1) 1, al 6 (.putfield 9) 3 20 6 4 0, an 9 (.aload_n 0) 1, an 10 (.bipush 40) 2, an 12 (.newarray .int) 2, al 14 (.putfield 15) 3 20 6 12 0, an 17 .return_ 1]
-- 17: BluesAndGreens$Row.<init>()V
def aC17 : List aN := [an 0 (.aload_n 0) 1, al 1 (.invokespecial 3) 3 10 0 0 0, an 4 (.aload_n 0) 1, an 5 (.bipush 8) 2, an 7 (.newarray .long) 2, al 9 (.putfield 9) 3 20 4 4 0, an 12 .return_ 1]
-- 18: BluesAndGreens$City.<init>()V
def aC18 : List aN := [an 0 (.aload_n 0) 1, al 1 (.invokespecial 3) 3 10 0 0 0, an 4 (.aload_n 0) 1, an 5 (.bipush 8) 2, an 7 (.newarray .int) 2, al 9 (.putfield 9) 3 20 0 12 0, an 12 (.aload_n 0) 1, an 13 (.bipush 8) 2, an 15 (.newarray .int) 2, al 17 (.putfield 15) 3 20 0 20 0, an 20 (.aload_n 0) 1, an 21 (.bipush 8) 2, an 23 (.newarray .int) 2, al 25 (.putfield 18) 3 20 0 28 0, an 28 (.aload_n 0) 1, an 29 (.bipush 8) 2, an 31 (.newarray .int) 2, al 33 (.putfield 21) 3 20 0 44 0, an 36 (.aload_n 0) 1, an 37 (.bipush 8) 2, an 39 (.newarray .int) 2, al 41 (.putfield 24) 3 20 0 52 0, an 44 (.aload_n 0) 1, an 45 (.bipush 8) 2, an 47 (.newarray .int) 2, al 49 (.putfield 27) 3 20 0 60 0, an 52 (.aload_n 0) 1, an 53 (.bipush 8) 2, an 55 (.newarray .int) 2, al 57 (.putfield 30) 3 20 0 68 0, an 60 (.aload_n 0) 1, an 61 (.bipush 32) 2, an 63 (.newarray .int) 2, al 65 (.putfield 33) 3 20 0 84 0, an 68 (.aload_n 0) 1, an 69 (.bipush 20) 2, al 71 (.putfield 36) 3 20 0 88 0, an 74 .return_ 1]
-- 19: BluesAndGreens$State.<init>()V
def aC19 : List aN := [an 0 (.aload_n 0) 1, al 1 (.invokespecial 5) 3 10 0 0 0, an 4 (.aload_n 0) 1, an 5 (.bipush 32) 2, an 7 (.newarray .int) 2, al 9 (.putfield 11) 3 20 8 4 0, an 12 (.aload_n 0) 1, al 13 (.getfield 11) 3 20 8 4 0, an 16 (.iconst 0) 1, an 17 (.bipush 100) 2, an 19 .iastore 1, an 20 (.aload_n 0) 1, al 21 (.getfield 11) 3 20 8 4 0, an 24 (.iconst 1) 1, an 25 (.bipush 100) 2, an 27 .iastore 1, an 28 (.iconst 0) 1, an 29 (.istore_n 1) 1, an 30 (.iload_n 1) 1, an 31 (.bipush 8) 2, an 33 (.if_icmp .ge 19) 3, an 36 (.aload_n 0) 1, al 37 (.getfield 11) 3 20 8 4 0, an 40 (.bipush 24) 2, an 42 (.iload_n 1) 1, an 43 .iadd 1, an 44 (.iconst (-1)) 1, an 45 .iastore 1, an 46 (.iinc 1 1) 3, an 49 (.goto (-19)) 3, an 52 .return_ 1]
-- 20: BluesAndGreens$Past.<init>()V
def aC20 : List aN := [an 0 (.aload_n 0) 1, al 1 (.invokespecial 3) 3 10 0 0 0, an 4 (.aload_n 0) 1, an 5 (.sipush 384) 3, an 8 (.newarray .int) 2, al 10 (.putfield 13) 3 20 2 4 0, an 13 .return_ 1]
-- 21: BluesAndGreens$Rule.<init>()V
def aC21 : List aN := [an 0 (.aload_n 0) 1, al 1 (.invokespecial 3) 3 10 0 0 0, an 4 (.aload_n 0) 1, an 5 (.bipush 40) 2, an 7 (.newarray .int) 2, al 9 (.putfield 9) 3 20 5 4 0, an 12 (.aload_n 0) 1, al 13 (.ldc 15) 2 15 2 0 0, al 15 (.invokevirtual 17) 3 2 0 21 0, an 18 (.newarray .int) 2, al 20 (.putfield 23) 3 20 5 20 0, an 23 (.aload_n 0) 1, an 24 (.bipush 40) 2, an 26 (.newarray .int) 2, al 28 (.putfield 26) 3 20 5 28 0, an 31 .return_ 1]
-- 22: BluesAndGreens$Runs.<init>()V
def aC22 : List aN := [an 0 (.aload_n 0) 1, al 1 (.invokespecial 3) 3 10 0 0 0, an 4 .return_ 1]
-- 23: BluesAndGreens$Heard.<init>()V
def aC23 : List aN := [an 0 (.aload_n 0) 1, al 1 (.invokespecial 3) 3 10 0 0 0, an 4 (.aload_n 0) 1, an 5 (.bipush 12) 2, an 7 (.newarray .int) 2, al 9 (.putfield 11) 3 20 1 4 0, an 12 (.aload_n 0) 1, an 13 (.bipush 12) 2, an 15 (.newarray .int) 2, al 17 (.putfield 15) 3 20 1 12 0, an 20 .return_ 1]
-- 24: BluesAndGreens.readRule(LBluesAndGreens$Rule;)I
def aC24 : List aN := [an 0 (.aload_n 0) 1, al 1 (.getfield 12) 3 20 10 4 0, al 4 (.getfield 422) 3 20 9 8 0, an 7 (.ifCond .ne 13) 3, an 10 (.aload_n 0) 1, al 11 (.getfield 12) 3 20 10 4 0, al 14 (.ldc_w 429) 3 15 1 0 0, al 17 (.invokevirtual 431) 3 2 25 9 0, an 20 (.aload_n 0) 1, al 21 (.getfield 30) 3 20 10 20 0, an 24 (.aload_n 1) 1, al 25 (.invokevirtual 435) 3 2 27 6 0, an 28 (.istore_n 2) 1, an 29 (.aload_n 0) 1, al 30 (.getfield 12) 3 20 10 4 0, an 33 (.iconst 0) 1, al 34 (.invokevirtual 111) 3 2 42 9 0, an 37 .pop 1, an 38 (.iload_n 2) 1, an 39 .ireturn 1]
-- 25: BluesAndGreens$Text.put(Ljava/lang/String;)V
def aC25 : List aN := [an 0 (.aload_n 0) 1, an 1 (.iconst 0) 1, al 2 (.putfield 15) 3 20 9 8 0, an 5 (.iconst 0) 1, an 6 (.istore_n 2) 1, an 7 (.iload_n 2) 1, an 8 (.aload_n 1) 1, al 9 (.invokevirtual 23) 3 2 0 21 0, an 12 (.if_icmp .ge 18) 3, an 15 (.aload_n 0) 1, an 16 (.aload_n 1) 1, an 17 (.iload_n 2) 1, al 18 (.invokevirtual 28) 3 2 2 21 0, al 21 (.invokevirtual 19) 3 2 26 9 0, an 24 (.iinc 2 1) 3, an 27 (.goto (-20)) 3, an 30 .return_ 1]
-- 26: BluesAndGreens$Text.append(C)V
def aC26 : List aN := [an 0 (.aload_n 0) 1, al 1 (.getfield 15) 3 20 9 8 0, an 4 (.ifCond .lt 35) 3, an 7 (.aload_n 0) 1, al 8 (.getfield 15) 3 20 9 8 0, an 11 (.aload_n 0) 1, al 12 (.getfield 9) 3 20 9 4 0, an 15 .arraylength 1, an 16 (.if_icmp .ge 23) 3, an 19 (.aload_n 0) 1, al 20 (.getfield 9) 3 20 9 4 0, an 23 (.aload_n 0) 1, al 24 (.getfield 15) 3 20 9 8 0, an 27 (.iload_n 1) 1, an 28 .castore 1, an 29 (.aload_n 0) 1, an 30 .dup 1, al 31 (.getfield 15) 3 20 9 8 0, an 34 (.iconst 1) 1, an 35 .iadd 1, al 36 (.putfield 15) 3 20 9 8 0, an 39 .return_ 1]
-- 27: BluesAndGreens$RuleReader.readInto(LBluesAndGreens$Rule;)I
def aC27 : List aN := [an 0 (.aload_n 1) 1, al 1 (.invokevirtual 19) 3 2 28 5 0, an 4 (.aload_n 0) 1, al 5 (.getfield 9) 3 20 6 4 0, an 8 (.bipush 40) 2, al 10 (.invokevirtual 24) 3 2 29 3 0, an 13 (.aload_n 0) 1, an 14 (.iconst 0) 1, al 15 (.putfield 30) 3 20 6 16 0, an 18 (.aload_n 0) 1, an 19 (.iconst 0) 1, al 20 (.putfield 34) 3 20 6 24 0, an 23 (.aload_n 0) 1, an 24 (.iconst 0) 1, al 25 (.putfield 37) 3 20 6 32 0, an 28 (.iconst 1) 1, an 29 (.istore_n 2) 1, an 30 (.iconst 0) 1, an 31 (.istore_n 3) 1, an 32 (.iload_n 3) 1, an 33 (.bipush 40) 2, an 35 (.if_icmp .ge 38) 3, an 38 (.aload_n 0) 1, al 39 (.getfield 9) 3 20 6 4 0, al 42 (.invokevirtual 40) 3 2 30 3 0, an 45 (.iconst (-1)) 1, an 46 (.if_icmp .eq 27) 3, an 49 (.iload_n 2) 1, an 50 (.ifCond .eq 11) 3, an 53 (.aload_n 0) 1, an 54 (.aload_n 1) 1, al 55 (.invokevirtual 44) 3 2 31 6 0, an 58 (.goto 8) 3, an 61 (.aload_n 0) 1, an 62 (.aload_n 1) 1, al 63 (.invokevirtual 48) 3 2 38 6 0, an 66 (.istore_n 2) 1, an 67 (.iinc 3 1) 3, an 70 (.goto (-38)) 3, an 73 (.iload_n 2) 1, an 74 (.ifCond .ne 10) 3, an 77 (.aload_n 0) 1, al 78 (.getfield 34) 3 20 6 24 0, an 81 (.ifCond .le 17) 3, an 84 (.aload_n 0) 1, al 85 (.getfield 9) 3 20 6 4 0, an 88 (.aload_n 0) 1, al 89 (.getfield 9) 3 20 6 4 0, al 92 (.getfield 51) 3 20 3 16 0, al 95 (.invokevirtual 54) 3 2 37 3 0, an 98 (.aload_n 0) 1, an 99 (.aload_n 1) 1, an 100 (.iconst 1) 1, al 101 (.invokevirtual 57) 3 2 40 6 0, an 104 (.aload_n 0) 1, al 105 (.getfield 9) 3 20 6 4 0, an 108 (.iconst 0) 1, al 109 (.invokevirtual 61) 3 2 41 3 0, an 112 .ireturn 1]
-- 28: BluesAndGreens$Rule.clear()V
def aC28 : List aN := [an 0 (.aload_n 0) 1, an 1 (.iconst 0) 1, al 2 (.putfield 29) 3 20 5 8 0, an 5 .return_ 1]
-- 29: BluesAndGreens$Reader.open(I)V
def aC29 : List aN := [an 0 (.aload_n 0) 1, an 1 (.iload_n 1) 1, al 2 (.putfield 15) 3 20 3 8 0, an 5 (.aload_n 0) 1, an 6 (.iconst 0) 1, al 7 (.putfield 19) 3 20 3 16 0, an 10 (.aload_n 0) 1, an 11 (.iconst (-1)) 1, al 12 (.putfield 22) 3 20 3 24 0, an 15 .return_ 1]
-- 30: BluesAndGreens$Reader.peek()I
def aC30 : List aN := [an 0 (.aload_n 0) 1, al 1 (.getfield 22) 3 20 3 24 0, an 4 (.iconst (-1)) 1, an 5 (.if_icmp .ne 28) 3, an 8 (.aload_n 0) 1, al 9 (.getfield 19) 3 20 3 16 0, an 12 (.aload_n 0) 1, al 13 (.getfield 15) 3 20 3 8 0, an 16 (.if_icmp .ge 17) 3, an 19 (.aload_n 0) 1, al 20 (.getfield 19) 3 20 3 16 0, an 23 (.aload_n 0) 1, al 24 (.getfield 9) 3 20 3 4 0, al 27 (.getfield 25) 3 20 9 8 0, an 30 (.if_icmp .lt 7) 3, an 33 (.iconst 1) 1, an 34 (.goto 4) 3, an 37 (.iconst 0) 1, an 38 (.istore_n 1) 1, an 39 (.iload_n 1) 1, an 40 (.ifCond .ne 40) 3, an 43 (.aload_n 0) 1, al 44 (.getfield 19) 3 20 3 16 0, an 47 (.ifCond .lt 33) 3, an 50 (.aload_n 0) 1, al 51 (.getfield 19) 3 20 3 16 0, an 54 (.aload_n 0) 1, al 55 (.getfield 9) 3 20 3 4 0, al 58 (.getfield 30) 3 20 9 4 0, an 61 .arraylength 1, an 62 (.if_icmp .ge 18) 3, an 65 (.aload_n 0) 1, al 66 (.getfield 9) 3 20 3 4 0, al 69 (.getfield 30) 3 20 9 4 0, an 72 (.aload_n 0) 1, al 73 (.getfield 19) 3 20 3 16 0, an 76 .caload 1, an 77 (.goto 4) 3, an 80 (.iconst (-1)) 1, an 81 .ireturn 1]
-- 31: BluesAndGreens$RuleReader.startThing(LBluesAndGreens$Rule;)Z
def aC31 : List aN := [an 0 (.aload_n 0) 1, al 1 (.getfield 9) 3 20 6 4 0, al 4 (.invokevirtual 40) 3 2 30 3 0, an 7 (.istore_n 2) 1, an 8 (.iload_n 2) 1, an 9 (.iconst (-1)) 1, an 10 (.if_icmp .ne 7) 3, an 13 (.iconst (-1)) 1, an 14 (.goto 10) 3, al 17 (.ldc 65) 2 15 2 0 0, an 19 (.iload_n 2) 1, an 20 .i2c 1, al 21 (.invokevirtual 67) 3 2 7 21 0, an 24 (.istore_n 3) 1, an 25 (.iload_n 2) 1, an 26 (.bipush 45) 2, an 28 (.if_icmp .ne 12) 3, an 31 (.aload_n 0) 1, an 32 (.sipush 256) 3, al 35 (.invokevirtual 72) 3 2 32 6 0, an 38 (.iconst 1) 1, an 39 .ireturn 1, an 40 (.iload_n 2) 1, an 41 (.bipush 40) 2, an 43 (.if_icmp .ne 46) 3, an 46 (.aload_n 0) 1, al 47 (.getfield 34) 3 20 6 24 0, an 50 (.iconst 4) 1, an 51 (.if_icmp .ge 38) 3, an 54 (.aload_n 0) 1, an 55 (.bipush 40) 2, al 57 (.invokevirtual 72) 3 2 32 6 0, an 60 (.aload_n 0) 1, an 61 .dup 1, al 62 (.getfield 34) 3 20 6 24 0, an 65 (.iconst 1) 1, an 66 .iadd 1, al 67 (.putfield 34) 3 20 6 24 0, an 70 (.aload_n 0) 1, an 71 .dup 1, al 72 (.getfield 37) 3 20 6 32 0, an 75 (.iconst 1) 1, an 76 (.aload_n 0) 1, al 77 (.getfield 34) 3 20 6 24 0, an 80 .ishl 1, an 81 (.iconst (-1)) 1, an 82 .ixor 1, an 83 .iand 1, al 84 (.putfield 37) 3 20 6 32 0, an 87 (.iconst 1) 1, an 88 .ireturn 1, an 89 (.iload_n 3) 1, an 90 (.ifCond .lt 21) 3, an 93 (.aload_n 0) 1, al 94 (.getfield 9) 3 20 6 4 0, al 97 (.invokevirtual 75) 3 2 33 3 0, an 100 (.aload_n 1) 1, an 101 (.sipush 1000) 3, an 104 (.iload_n 3) 1, an 105 .iadd 1, al 106 (.invokevirtual 78) 3 2 34 5 0, an 109 (.iconst 0) 1, an 110 .ireturn 1, an 111 (.aload_n 1) 1, an 112 (.aload_n 0) 1, al 113 (.getfield 9) 3 20 6 4 0, an 116 (.iconst 3) 1, al 117 (.invokevirtual 81) 3 2 35 3 0, al 120 (.invokevirtual 78) 3 2 34 5 0, an 123 (.iconst 0) 1, an 124 .ireturn 1]
-- 32: BluesAndGreens$RuleReader.hold(I)V
def aC32 : List aN := [an 0 (.aload_n 0) 1, al 1 (.getfield 9) 3 20 6 4 0, al 4 (.invokevirtual 75) 3 2 33 3 0, an 7 (.aload_n 0) 1, al 8 (.getfield 30) 3 20 6 16 0, an 11 (.ifCond .lt 35) 3, an 14 (.aload_n 0) 1, al 15 (.getfield 30) 3 20 6 16 0, an 18 (.aload_n 0) 1, al 19 (.getfield 15) 3 20 6 12 0, an 22 .arraylength 1, an 23 (.if_icmp .ge 23) 3, an 26 (.aload_n 0) 1, al 27 (.getfield 15) 3 20 6 12 0, an 30 (.aload_n 0) 1, al 31 (.getfield 30) 3 20 6 16 0, an 34 (.iload_n 1) 1, an 35 .iastore 1, an 36 (.aload_n 0) 1, an 37 .dup 1, al 38 (.getfield 30) 3 20 6 16 0, an 41 (.iconst 1) 1, an 42 .iadd 1, al 43 (.putfield 30) 3 20 6 16 0, an 46 .return_ 1]
-- 33: BluesAndGreens$Reader.step()V
def aC33 : List aN := [an 0 (.aload_n 0) 1, an 1 .dup 1, al 2 (.getfield 19) 3 20 3 16 0, an 5 (.iconst 1) 1, an 6 .iadd 1, al 7 (.putfield 19) 3 20 3 16 0, an 10 .return_ 1]
-- 34: BluesAndGreens$Rule.add(I)V
def aC34 : List aN := [an 0 (.aload_n 0) 1, al 1 (.getfield 29) 3 20 5 8 0, an 4 (.ifCond .lt 35) 3, an 7 (.aload_n 0) 1, al 8 (.getfield 29) 3 20 5 8 0, an 11 (.aload_n 0) 1, al 12 (.getfield 9) 3 20 5 4 0, an 15 .arraylength 1, an 16 (.if_icmp .ge 23) 3, an 19 (.aload_n 0) 1, al 20 (.getfield 9) 3 20 5 4 0, an 23 (.aload_n 0) 1, al 24 (.getfield 29) 3 20 5 8 0, an 27 (.iload_n 1) 1, an 28 .iastore 1, an 29 (.aload_n 0) 1, an 30 .dup 1, al 31 (.getfield 29) 3 20 5 8 0, an 34 (.iconst 1) 1, an 35 .iadd 1, al 36 (.putfield 29) 3 20 5 8 0, an 39 .return_ 1]
-- 35: BluesAndGreens$Reader.number(I)I
def aC35 : List aN := [an 0 (.aload_n 0) 1, an 1 (.bipush 48) 2, an 3 (.bipush 57) 2, al 5 (.invokevirtual 45) 3 2 36 3 0, an 8 (.bipush 48) 2, an 10 .isub 1, an 11 (.istore_n 2) 1, an 12 (.iconst 1) 1, an 13 (.istore_n 3) 1, an 14 (.iload_n 3) 1, an 15 (.iload_n 1) 1, an 16 (.if_icmp .ge 47) 3, an 19 (.aload_n 0) 1, al 20 (.invokevirtual 38) 3 2 30 3 0, an 23 (.istore 4) 2, an 25 (.iload 4) 2, an 27 (.bipush 48) 2, an 29 (.if_icmp .lt 34) 3, an 32 (.iload 4) 2, an 34 (.bipush 57) 2, an 36 (.if_icmp .le 6) 3, an 39 (.goto 24) 3, an 42 (.aload_n 0) 1, al 43 (.invokevirtual 42) 3 2 33 3 0, an 46 (.iload_n 2) 1, an 47 (.bipush 10) 2, an 49 .imul 1, an 50 (.iload 4) 2, an 52 .iadd 1, an 53 (.bipush 48) 2, an 55 .isub 1, an 56 (.istore_n 2) 1, an 57 (.iinc 3 1) 3, an 60 (.goto (-46)) 3, an 63 (.iload_n 2) 1, an 64 .ireturn 1]
-- 36: BluesAndGreens$Reader.take(II)I
def aC36 : List aN := [an 0 (.aload_n 0) 1, al 1 (.invokevirtual 38) 3 2 30 3 0, an 4 (.istore_n 3) 1, an 5 (.iload_n 3) 1, an 6 (.iload_n 1) 1, an 7 (.if_icmp .lt 8) 3, an 10 (.iload_n 3) 1, an 11 (.iload_n 2) 1, an 12 (.if_icmp .le 13) 3, an 15 (.aload_n 0) 1, an 16 (.aload_n 0) 1, al 17 (.getfield 19) 3 20 3 16 0, al 20 (.invokevirtual 34) 3 2 37 3 0, an 23 (.iload_n 1) 1, an 24 .ireturn 1, an 25 (.aload_n 0) 1, al 26 (.invokevirtual 42) 3 2 33 3 0, an 29 (.iload_n 3) 1, an 30 .ireturn 1]
-- 37: BluesAndGreens$Reader.failAt(I)V
def aC37 : List aN := [an 0 (.aload_n 0) 1, al 1 (.getfield 22) 3 20 3 24 0, an 4 (.iconst (-1)) 1, an 5 (.if_icmp .ne 8) 3, an 8 (.aload_n 0) 1, an 9 (.iload_n 1) 1, al 10 (.putfield 22) 3 20 3 24 0, an 13 .return_ 1]
-- 38: BluesAndGreens$RuleReader.goOn(LBluesAndGreens$Rule;)Z
def aC38 : List aN := [an 0 (.aload_n 0) 1, al 1 (.getfield 9) 3 20 6 4 0, al 4 (.invokevirtual 40) 3 2 30 3 0, an 7 (.istore_n 2) 1, an 8 (.iload_n 2) 1, al 9 (.invokestatic 84) 3 1 39 0 0, an 12 (.istore_n 3) 1, an 13 (.iload_n 2) 1, an 14 (.bipush 41) 2, an 16 (.if_icmp .ne 49) 3, an 19 (.aload_n 0) 1, al 20 (.getfield 34) 3 20 6 24 0, an 23 (.ifCond .le 42) 3, an 26 (.aload_n 0) 1, al 27 (.getfield 9) 3 20 6 4 0, al 30 (.invokevirtual 75) 3 2 33 3 0, an 33 (.aload_n 0) 1, an 34 (.aload_n 1) 1, an 35 (.iconst 1) 1, al 36 (.invokevirtual 57) 3 2 40 6 0, an 39 (.aload_n 0) 1, an 40 (.iconst 0) 1, an 41 (.aload_n 0) 1, al 42 (.getfield 30) 3 20 6 16 0, an 45 (.iconst 1) 1, an 46 .isub 1, al 47 (.invokestatic 87) 3 17 0 0 0, al 50 (.putfield 30) 3 20 6 16 0, an 53 (.aload_n 0) 1, an 54 .dup 1, al 55 (.getfield 34) 3 20 6 24 0, an 58 (.iconst 1) 1, an 59 .isub 1, al 60 (.putfield 34) 3 20 6 24 0, an 63 (.iconst 0) 1, an 64 .ireturn 1, an 65 (.iload_n 3) 1, an 66 (.iconst 1) 1, an 67 (.if_icmp .ne 22) 3, an 70 (.aload_n 0) 1, al 71 (.getfield 37) 3 20 6 32 0, an 74 (.aload_n 0) 1, al 75 (.getfield 34) 3 20 6 24 0, an 78 .ishr 1, an 79 (.iconst 1) 1, an 80 .iand 1, an 81 (.iconst 1) 1, an 82 (.if_icmp .ne 7) 3, an 85 (.iconst 1) 1, an 86 (.goto 4) 3, an 89 (.iconst 0) 1, an 90 (.istore 4) 2, an 92 (.iload_n 3) 1, an 93 (.ifCond .eq 8) 3, an 96 (.iload 4) 2, an 98 (.ifCond .eq 19) 3, an 101 (.aload_n 0) 1, al 102 (.getfield 9) 3 20 6 4 0, an 105 (.aload_n 0) 1, al 106 (.getfield 9) 3 20 6 4 0, al 109 (.getfield 51) 3 20 3 16 0, al 112 (.invokevirtual 54) 3 2 37 3 0, an 115 (.iconst 0) 1, an 116 .ireturn 1, an 117 (.iload_n 3) 1, an 118 (.iconst 1) 1, an 119 (.if_icmp .ne 18) 3, an 122 (.aload_n 0) 1, an 123 .dup 1, al 124 (.getfield 37) 3 20 6 32 0, an 127 (.iconst 1) 1, an 128 (.aload_n 0) 1, al 129 (.getfield 34) 3 20 6 24 0, an 132 .ishl 1, an 133 .ior 1, al 134 (.putfield 37) 3 20 6 32 0, an 137 (.aload_n 0) 1, an 138 (.aload_n 1) 1, an 139 (.iload_n 3) 1, al 140 (.invokevirtual 57) 3 2 40 6 0, an 143 (.aload_n 0) 1, an 144 (.iload_n 2) 1, al 145 (.invokevirtual 72) 3 2 32 6 0, an 148 (.iconst 1) 1, an 149 .ireturn 1]
-- 39: BluesAndGreens$RuleReader.bindingOf(I)I
def aC39 : List aN := [an 0 (.iload_n 0) 1, an 1 (.lookupswitch 83 #[(42, 79), (43, 77), (45, 77), (47, 79), (60, 75), (61, 75), (62, 75), (256, 81)]) 75, an 76 (.iconst 1) 1, an 77 .ireturn 1, an 78 (.iconst 2) 1, an 79 .ireturn 1, an 80 (.iconst 3) 1, an 81 .ireturn 1, an 82 (.iconst 4) 1, an 83 .ireturn 1, an 84 (.iconst 0) 1, an 85 .ireturn 1]
-- 40: BluesAndGreens$RuleReader.settle(LBluesAndGreens$Rule;I)V
def aC40 : List aN := [an 0 (.aload_n 0) 1, al 1 (.getfield 30) 3 20 6 16 0, an 4 (.iconst 1) 1, an 5 .isub 1, an 6 (.istore_n 3) 1, an 7 (.iload_n 3) 1, an 8 (.ifCond .lt 53) 3, an 11 (.iload_n 3) 1, an 12 (.aload_n 0) 1, al 13 (.getfield 15) 3 20 6 12 0, an 16 .arraylength 1, an 17 (.if_icmp .ge 44) 3, an 20 (.aload_n 0) 1, al 21 (.getfield 15) 3 20 6 12 0, an 24 (.iload_n 3) 1, an 25 .iaload 1, al 26 (.invokestatic 84) 3 1 39 0 0, an 29 (.iload_n 2) 1, an 30 (.if_icmp .ge 6) 3, an 33 (.goto 28) 3, an 36 (.aload_n 1) 1, an 37 (.sipush 2000) 3, an 40 (.aload_n 0) 1, al 41 (.getfield 15) 3 20 6 12 0, an 44 (.iload_n 3) 1, an 45 .iaload 1, an 46 .iadd 1, al 47 (.invokevirtual 78) 3 2 34 5 0, an 50 (.aload_n 0) 1, an 51 (.iload_n 3) 1, al 52 (.putfield 30) 3 20 6 16 0, an 55 (.iinc 3 (-1)) 3, an 58 (.goto (-51)) 3, an 61 .return_ 1]
-- 41: BluesAndGreens$Reader.close(I)I
def aC41 : List aN := [an 0 (.aload_n 0) 1, al 1 (.getfield 19) 3 20 3 16 0, an 4 (.aload_n 0) 1, al 5 (.getfield 9) 3 20 3 4 0, al 8 (.getfield 25) 3 20 9 8 0, an 11 (.if_icmp .ge 11) 3, an 14 (.aload_n 0) 1, an 15 (.aload_n 0) 1, al 16 (.getfield 19) 3 20 3 16 0, al 19 (.invokevirtual 34) 3 2 37 3 0, an 22 (.aload_n 0) 1, al 23 (.getfield 22) 3 20 3 24 0, an 26 (.iconst (-1)) 1, an 27 (.if_icmp .ne 7) 3, an 30 (.iload_n 1) 1, an 31 (.goto 9) 3, an 34 (.iconst (-1)) 1, an 35 (.aload_n 0) 1, al 36 (.getfield 22) 3 20 3 24 0, an 39 .isub 1, an 40 .ireturn 1]
-- 42: BluesAndGreens$Text.cut(I)Z
def aC42 : List aN := [an 0 (.iload_n 1) 1, an 1 (.ifCond .lt 11) 3, an 4 (.iload_n 1) 1, an 5 (.aload_n 0) 1, al 6 (.getfield 15) 3 20 9 8 0, an 9 (.if_icmp .le 5) 3, an 12 (.iconst 0) 1, an 13 .ireturn 1, an 14 (.aload_n 0) 1, an 15 (.iload_n 1) 1, al 16 (.putfield 15) 3 20 9 8 0, an 19 (.iconst 1) 1, an 20 .ireturn 1]
-- 43: BluesAndGreens.sign(I)I
def aC43 : List aN := [an 0 (.aload_n 0) 1, al 1 (.getfield 12) 3 20 10 4 0, an 4 (.iload_n 1) 1, al 5 (.invokevirtual 107) 3 2 44 9 0, an 8 .ireturn 1]
-- 44: BluesAndGreens$Text.add(I)I
def aC44 : List aN := [an 0 (.aload_n 0) 1, al 1 (.getfield 15) 3 20 9 8 0, an 4 (.iconst 4) 1, an 5 .iadd 1, an 6 (.aload_n 0) 1, al 7 (.getfield 9) 3 20 9 4 0, an 10 .arraylength 1, an 11 (.if_icmp .le 5) 3, an 14 (.iconst (-1)) 1, an 15 .ireturn 1, an 16 (.bipush 24) 2, an 18 (.istore_n 2) 1, an 19 (.iload_n 2) 1, an 20 (.ifCond .lt 21) 3, an 23 (.aload_n 0) 1, an 24 (.iload_n 1) 1, an 25 (.iload_n 2) 1, an 26 .iushr 1, an 27 (.sipush 255) 3, an 30 .iand 1, an 31 .i2c 1, al 32 (.invokevirtual 19) 3 2 26 9 0, an 35 (.iinc 2 (-8)) 3, an 38 (.goto (-19)) 3, an 41 (.aload_n 0) 1, al 42 (.getfield 15) 3 20 9 8 0, an 45 .ireturn 1]
-- 45: BluesAndGreens.end(I)Z
def aC45 : List aN := [an 0 (.aload_n 0) 1, al 1 (.getfield 12) 3 20 10 4 0, an 4 (.iload_n 1) 1, al 5 (.invokevirtual 111) 3 2 42 9 0, an 8 .ireturn 1]
-- 46: BluesAndGreens.drivers()I
def aC46 : List aN := [an 0 (.aload_n 0) 1, al 1 (.getfield 21) 3 20 10 12 0, an 4 (.bipush 100) 2, an 6 (.bipush 48) 2, an 8 (.aload_n 0) 1, al 9 (.getfield 44) 3 20 10 36 0, an 12 (.aload_n 0) 1, al 13 (.getfield 44) 3 20 10 36 0, al 16 (.getfield 115) 3 20 0 0 0, al 19 (.invokevirtual 119) 3 2 47 3 0, an 22 (.istore_n 1) 1, an 23 (.aload_n 0) 1, al 24 (.getfield 12) 3 20 10 4 0, an 27 (.iconst 0) 1, al 28 (.invokevirtual 111) 3 2 42 9 0, an 31 .pop 1, an 32 (.iload_n 1) 1, an 33 (.ifCond .le 32) 3, an 36 (.aload_n 0) 1, al 37 (.getfield 51) 3 20 10 44 0, an 40 (.aload_n 0) 1, al 41 (.getfield 44) 3 20 10 36 0, an 44 (.iload_n 1) 1, al 45 (.invokevirtual 123) 3 2 52 8 0, an 48 (.aload_n 0) 1, al 49 (.getfield 44) 3 20 10 36 0, an 52 .dup 1, al 53 (.getfield 115) 3 20 0 0 0, an 56 (.iload_n 1) 1, an 57 .iadd 1, al 58 (.putfield 115) 3 20 0 0 0, an 61 (.aload_n 0) 1, al 62 (.invokevirtual 127) 3 2 53 10 0, an 65 (.iload_n 1) 1, an 66 .ireturn 1]
-- 47: BluesAndGreens$Reader.linesOf(CILBluesAndGreens$City;I)I
def aC47 : List aN := [an 0 (.aload_n 0) 1, an 1 (.iload_n 2) 1, al 2 (.invokevirtual 49) 3 2 29 3 0, an 5 (.iconst 0) 1, an 6 (.istore 5) 2, an 8 (.iload 4) 2, an 10 (.istore 6) 2, an 12 (.iload 6) 2, an 14 (.bipush 8) 2, an 16 (.if_icmp .gt 64) 3, an 19 (.aload_n 0) 1, al 20 (.getfield 9) 3 20 3 4 0, al 23 (.getfield 25) 3 20 9 8 0, an 26 (.ifCond .le 54) 3, an 29 (.iload 6) 2, an 31 (.bipush 8) 2, an 33 (.if_icmp .ne 14) 3, an 36 (.aload_n 0) 1, an 37 (.aload_n 0) 1, al 38 (.getfield 19) 3 20 3 16 0, al 41 (.invokevirtual 34) 3 2 37 3 0, an 44 (.goto 36) 3, an 47 (.aload_n 0) 1, an 48 (.iload_n 1) 1, an 49 (.aload_n 3) 1, an 50 (.iload 6) 2, al 52 (.invokevirtual 52) 3 2 48 3 0, an 55 (.iinc 5 1) 3, an 58 (.aload_n 0) 1, al 59 (.invokevirtual 38) 3 2 30 3 0, an 62 (.bipush 59) 2, an 64 (.if_icmp .eq 6) 3, an 67 (.goto 13) 3, an 70 (.aload_n 0) 1, al 71 (.invokevirtual 42) 3 2 33 3 0, an 74 (.iinc 6 1) 3, an 77 (.goto (-65)) 3, an 80 (.aload_n 0) 1, an 81 (.iload 5) 2, al 83 (.invokevirtual 56) 3 2 41 3 0, an 86 .ireturn 1]
-- 48: BluesAndGreens$Reader.oneLine(CLBluesAndGreens$City;I)V
def aC48 : List aN := [an 0 (.iload_n 3) 1, an 1 (.ifCond .lt 9) 3, an 4 (.iload_n 3) 1, an 5 (.bipush 8) 2, an 7 (.if_icmp .lt 4) 3, an 10 .return_ 1, an 11 (.iload_n 1) 1, an 12 (.bipush 100) 2, an 14 (.if_icmp .ne 44) 3, an 17 (.aload_n 2) 1, al 18 (.getfield 60) 3 20 0 12 0, an 21 (.iload_n 3) 1, an 22 (.aload_n 0) 1, an 23 (.bipush 49) 2, an 25 (.bipush 57) 2, al 27 (.invokevirtual 45) 3 2 36 3 0, an 30 (.bipush 48) 2, an 32 .isub 1, an 33 .iastore 1, an 34 (.aload_n 2) 1, al 35 (.getfield 66) 3 20 0 20 0, an 38 (.iload_n 3) 1, an 39 (.aload_n 0) 1, an 40 (.iconst 2) 1, al 41 (.invokevirtual 69) 3 2 35 3 0, an 44 .iastore 1, an 45 (.aload_n 2) 1, al 46 (.getfield 72) 3 20 0 28 0, an 49 (.iload_n 3) 1, an 50 (.aload_n 0) 1, al 51 (.invokevirtual 75) 3 2 49 3 0, an 54 .iastore 1, an 55 (.goto 96) 3, an 58 (.iload_n 1) 1, an 59 (.bipush 113) 2, an 61 (.if_icmp .ne 53) 3, an 64 (.aload_n 2) 1, al 65 (.getfield 78) 3 20 0 44 0, an 68 (.iload_n 3) 1, an 69 (.aload_n 0) 1, al 70 (.invokevirtual 81) 3 2 50 3 0, an 73 .iastore 1, an 74 (.aload_n 2) 1, al 75 (.getfield 84) 3 20 0 52 0, an 78 (.iload_n 3) 1, an 79 (.aload_n 0) 1, al 80 (.invokevirtual 75) 3 2 49 3 0, an 83 .iastore 1, an 84 (.aload_n 2) 1, al 85 (.getfield 87) 3 20 0 60 0, an 88 (.iload_n 3) 1, an 89 (.aload_n 0) 1, an 90 (.bipush 48) 2, an 92 (.bipush 57) 2, al 94 (.invokevirtual 45) 3 2 36 3 0, an 97 (.bipush 48) 2, an 99 .isub 1, an 100 .iastore 1, an 101 (.aload_n 2) 1, al 102 (.getfield 90) 3 20 0 68 0, an 105 (.iload_n 3) 1, an 106 (.aload_n 0) 1, al 107 (.invokevirtual 93) 3 2 51 3 0, an 110 .iastore 1, an 111 (.goto 40) 3, an 114 (.iconst 0) 1, an 115 (.istore 4) 2, an 117 (.iload 4) 2, an 119 (.iconst 4) 1, an 120 (.if_icmp .ge 31) 3, an 123 (.aload_n 2) 1, al 124 (.getfield 96) 3 20 0 84 0, an 127 (.iconst 4) 1, an 128 (.iload_n 3) 1, an 129 .imul 1, an 130 (.iload 4) 2, an 132 .iadd 1, an 133 (.aload_n 0) 1, an 134 (.bipush 48) 2, an 136 (.bipush 57) 2, al 138 (.invokevirtual 45) 3 2 36 3 0, an 141 (.bipush 48) 2, an 143 .isub 1, an 144 .iastore 1, an 145 (.iinc 4 1) 3, an 148 (.goto (-31)) 3, an 151 .return_ 1]
-- 49: BluesAndGreens$Reader.clubLetter()I
def aC49 : List aN := [an 0 (.aload_n 0) 1, al 1 (.invokevirtual 38) 3 2 30 3 0, an 4 (.bipush 103) 2, an 6 (.if_icmp .ne 9) 3, an 9 (.aload_n 0) 1, al 10 (.invokevirtual 42) 3 2 33 3 0, an 13 (.iconst 1) 1, an 14 .ireturn 1, an 15 (.aload_n 0) 1, an 16 (.bipush 98) 2, an 18 (.bipush 98) 2, al 20 (.invokevirtual 45) 3 2 36 3 0, an 23 .pop 1, an 24 (.iconst 0) 1, an 25 .ireturn 1]
-- 50: BluesAndGreens$Reader.crowdNumber()I
def aC50 : List aN := [an 0 (.aload_n 0) 1, an 1 (.iconst 2) 1, al 2 (.invokevirtual 69) 3 2 35 3 0, an 5 (.istore_n 1) 1, an 6 (.iload_n 1) 1, an 7 (.ifCond .ne 13) 3, an 10 (.aload_n 0) 1, an 11 (.aload_n 0) 1, al 12 (.getfield 19) 3 20 3 16 0, an 15 (.iconst 1) 1, an 16 .isub 1, al 17 (.invokevirtual 34) 3 2 37 3 0, an 20 (.iload_n 1) 1, an 21 .ireturn 1]
-- 51: BluesAndGreens$Reader.gateLetters()I
def aC51 : List aN := [an 0 (.iconst 0) 1, an 1 (.istore_n 1) 1, an 2 (.bipush 97) 2, an 4 (.istore_n 2) 1, an 5 (.iconst 0) 1, an 6 (.istore_n 3) 1, an 7 (.iload_n 3) 1, an 8 (.bipush 9) 2, an 10 (.if_icmp .ge 50) 3, an 13 (.aload_n 0) 1, al 14 (.invokevirtual 38) 3 2 30 3 0, an 17 (.istore 4) 2, an 19 (.iload 4) 2, an 21 (.iload_n 2) 1, an 22 (.if_icmp .lt 38) 3, an 25 (.iload 4) 2, an 27 (.bipush 105) 2, an 29 (.if_icmp .le 6) 3, an 32 (.goto 28) 3, an 35 (.aload_n 0) 1, al 36 (.invokevirtual 42) 3 2 33 3 0, an 39 (.iload_n 1) 1, an 40 (.iconst 1) 1, an 41 (.iload 4) 2, an 43 (.bipush 97) 2, an 45 .isub 1, an 46 .ishl 1, an 47 .ior 1, an 48 (.istore_n 1) 1, an 49 (.iload 4) 2, an 51 (.iconst 1) 1, an 52 .iadd 1, an 53 (.istore_n 2) 1, an 54 (.iinc 3 1) 3, an 57 (.goto (-50)) 3, an 60 (.iload_n 1) 1, an 61 .ireturn 1]
-- 52: BluesAndGreens$State.enter(LBluesAndGreens$City;I)V
def aC52 : List aN := [an 0 (.iconst 0) 1, an 1 (.istore_n 3) 1, an 2 (.iload_n 3) 1, an 3 (.iload_n 2) 1, an 4 (.if_icmp .ge 45) 3, an 7 (.aload_n 1) 1, al 8 (.getfield 21) 3 20 0 0 0, an 11 (.iload_n 3) 1, an 12 .iadd 1, an 13 (.bipush 8) 2, an 15 (.if_icmp .ge 34) 3, an 18 (.aload_n 1) 1, al 19 (.getfield 21) 3 20 0 0 0, an 22 (.iload_n 3) 1, an 23 .iadd 1, an 24 (.istore 4) 2, an 26 (.aload_n 0) 1, al 27 (.getfield 11) 3 20 8 4 0, an 30 (.bipush 8) 2, an 32 (.iload 4) 2, an 34 .iadd 1, an 35 (.aload_n 1) 1, al 36 (.getfield 27) 3 20 0 28 0, an 39 (.iload 4) 2, an 41 .iaload 1, an 42 .iastore 1, an 43 (.iinc 3 1) 3, an 46 (.goto (-44)) 3, an 49 .return_ 1]
-- 53: BluesAndGreens.forgetStates()V
def aC53 : List aN := [an 0 (.aload_n 0) 1, al 1 (.getfield 64) 3 20 10 68 0, al 4 (.invokevirtual 407) 3 2 54 2 0, an 7 (.iconst 0) 1, an 8 (.istore_n 1) 1, an 9 (.iload_n 1) 1, an 10 (.aload_n 0) 1, al 11 (.getfield 72) 3 20 10 84 0, an 14 .arraylength 1, an 15 (.if_icmp .ge 16) 3, an 18 (.aload_n 0) 1, al 19 (.getfield 72) 3 20 10 84 0, an 22 (.iload_n 1) 1, an 23 (.iconst 0) 1, an 24 .bastore 1, an 25 (.iinc 1 1) 3, an 28 (.goto (-19)) 3, an 31 .return_ 1]
-- 54: BluesAndGreens$Past.clear()V
def aC54 : List aN := [an 0 (.aload_n 0) 1, an 1 (.iconst 0) 1, al 2 (.putfield 17) 3 20 2 8 0, an 5 .return_ 1]
-- 55: BluesAndGreens.quarters()I
def aC55 : List aN := [an 0 (.aload_n 0) 1, al 1 (.getfield 21) 3 20 10 12 0, an 4 (.bipush 113) 2, an 6 (.bipush 76) 2, an 8 (.aload_n 0) 1, al 9 (.getfield 44) 3 20 10 36 0, an 12 (.aload_n 0) 1, al 13 (.getfield 44) 3 20 10 36 0, al 16 (.getfield 130) 3 20 0 32 0, al 19 (.invokevirtual 119) 3 2 47 3 0, an 22 (.istore_n 1) 1, an 23 (.aload_n 0) 1, al 24 (.getfield 12) 3 20 10 4 0, an 27 (.iconst 0) 1, al 28 (.invokevirtual 111) 3 2 42 9 0, an 31 .pop 1, an 32 (.iload_n 1) 1, an 33 (.ifCond .le 20) 3, an 36 (.aload_n 0) 1, al 37 (.getfield 44) 3 20 10 36 0, an 40 .dup 1, al 41 (.getfield 130) 3 20 0 32 0, an 44 (.iload_n 1) 1, an 45 .iadd 1, al 46 (.putfield 130) 3 20 0 32 0, an 49 (.aload_n 0) 1, al 50 (.invokevirtual 127) 3 2 53 10 0, an 53 (.iload_n 1) 1, an 54 .ireturn 1]
-- 56: BluesAndGreens.quarrels()I
def aC56 : List aN := [an 0 (.aload_n 0) 1, al 1 (.getfield 21) 3 20 10 12 0, an 4 (.bipush 115) 2, an 6 (.bipush 44) 2, an 8 (.aload_n 0) 1, al 9 (.getfield 44) 3 20 10 36 0, an 12 (.aload_n 0) 1, al 13 (.getfield 44) 3 20 10 36 0, al 16 (.getfield 133) 3 20 0 72 0, al 19 (.invokevirtual 119) 3 2 47 3 0, an 22 (.istore_n 1) 1, an 23 (.aload_n 0) 1, al 24 (.getfield 12) 3 20 10 4 0, an 27 (.iconst 0) 1, al 28 (.invokevirtual 111) 3 2 42 9 0, an 31 .pop 1, an 32 (.iload_n 1) 1, an 33 (.ifCond .le 20) 3, an 36 (.aload_n 0) 1, al 37 (.getfield 44) 3 20 10 36 0, an 40 .dup 1, al 41 (.getfield 133) 3 20 0 72 0, an 44 (.iload_n 1) 1, an 45 .iadd 1, al 46 (.putfield 133) 3 20 0 72 0, an 49 (.aload_n 0) 1, al 50 (.invokevirtual 127) 3 2 53 10 0, an 53 (.iload_n 1) 1, an 54 .ireturn 1]
-- 57: BluesAndGreens.rule()I
def aC57 : List aN := [an 0 (.aload_n 0) 1, an 1 (.aload_n 0) 1, al 2 (.getfield 83) 3 20 10 100 0, al 5 (.invokevirtual 103) 3 2 24 10 0, an 8 (.istore_n 1) 1, an 9 (.iload_n 1) 1, an 10 (.ifCond .ne 14) 3, an 13 (.aload_n 0) 1, al 14 (.getfield 79) 3 20 10 92 0, an 17 (.aload_n 0) 1, al 18 (.getfield 83) 3 20 10 100 0, al 21 (.invokevirtual 136) 3 2 58 5 0, an 24 (.iload_n 1) 1, an 25 .ireturn 1]
-- 58: BluesAndGreens$Rule.copy(LBluesAndGreens$Rule;)V
def aC58 : List aN := [an 0 (.aload_n 1) 1, al 1 (.getfield 9) 3 20 5 4 0, an 4 (.iconst 0) 1, an 5 (.aload_n 0) 1, al 6 (.getfield 9) 3 20 5 4 0, an 9 (.iconst 0) 1, an 10 (.bipush 40) 2, al 12 (.invokestatic 33) 3 11 0 0 0, an 15 (.aload_n 0) 1, an 16 (.aload_n 1) 1, al 17 (.getfield 29) 3 20 5 8 0, al 20 (.putfield 29) 3 20 5 8 0, an 23 .return_ 1]
-- 59: BluesAndGreens.limit(I)I
def aC59 : List aN := [an 0 (.iload_n 1) 1, an 1 (.iconst 1) 1, an 2 (.if_icmp .lt 9) 3, an 5 (.iload_n 1) 1, an 6 (.bipush 99) 2, an 8 (.if_icmp .le 5) 3, an 11 (.iconst (-1)) 1, an 12 .ireturn 1, an 13 (.aload_n 0) 1, al 14 (.getfield 44) 3 20 10 36 0, al 17 (.getfield 208) 3 20 0 88 0, an 20 (.istore_n 2) 1, an 21 (.aload_n 0) 1, al 22 (.getfield 44) 3 20 10 36 0, an 25 (.iload_n 1) 1, al 26 (.putfield 208) 3 20 0 88 0, an 29 (.iload_n 2) 1, an 30 .ireturn 1]
-- 60: BluesAndGreens.sheet(IIII)I
def aC60 : List aN := [an 0 (.iload_n 1) 1, an 1 (.ifCond .lt 14) 3, an 4 (.iload_n 1) 1, an 5 (.iconst 3) 1, an 6 (.if_icmp .gt 9) 3, an 9 (.iload_n 2) 1, an 10 (.bipush 8) 2, an 12 (.if_icmp .le 5) 3, an 15 (.iconst (-1)) 1, an 16 .ireturn 1, an 17 (.iload_n 1) 1, an 18 (.iconst 3) 1, an 19 (.if_icmp .ge 10) 3, an 22 (.iload_n 2) 1, an 23 (.ifCond .ge 6) 3, an 26 (.bipush (-2)) 2, an 28 .ireturn 1, an 29 (.iload_n 1) 1, an 30 (.iconst 3) 1, an 31 (.if_icmp .ne 7) 3, an 34 (.iconst 0) 1, an 35 (.goto 4) 3, an 38 (.iload_n 2) 1, an 39 (.istore 5) 2, an 41 (.iconst 0) 1, an 42 (.istore 6) 2, an 44 (.iconst 0) 1, an 45 (.istore 7) 2, an 47 (.iload 7) 2, an 49 (.aload_n 0) 1, al 50 (.getfield 44) 3 20 10 36 0, al 53 (.getfield 115) 3 20 0 0 0, an 56 (.if_icmp .ge 52) 3, an 59 (.iload 7) 2, an 61 (.iload 5) 2, an 63 (.if_icmp .ge 17) 3, an 66 (.iload_n 1) 1, an 67 (.iload_n 3) 1, an 68 (.iload 7) 2, an 70 (.iload 4) 2, an 72 .imul 1, an 73 .iadd 1, al 74 (.invokestatic 211) 3 1 61 0 0, an 77 (.goto 4) 3, an 80 (.iconst 0) 1, an 81 (.istore 8) 2, an 83 (.aload_n 0) 1, al 84 (.getfield 44) 3 20 10 36 0, al 87 (.getfield 149) 3 20 0 20 0, an 90 (.iload 7) 2, an 92 (.iload 8) 2, an 94 .iastore 1, an 95 (.iload 6) 2, an 97 (.iload 8) 2, an 99 .iadd 1, an 100 (.istore 6) 2, an 102 (.iinc 7 1) 3, an 105 (.goto (-58)) 3, an 108 (.iload_n 1) 1, an 109 (.iconst 3) 1, an 110 (.if_icmp .ne 8) 3, an 113 (.bipush (-3)) 2, an 115 (.goto 5) 3, an 118 (.iload 6) 2, an 120 .ireturn 1]
-- 61: BluesAndGreens.sheetPrice(II)I
def aC61 : List aN := [an 0 (.iload_n 0) 1, an 1 (.ifCond .ne 8) 3, an 4 (.iload_n 1) 1, an 5 .i2b 1, an 6 (.goto 14) 3, an 9 (.iload_n 0) 1, an 10 (.iconst 1) 1, an 11 (.if_icmp .ne 8) 3, an 14 (.iload_n 1) 1, an 15 .i2s 1, an 16 (.goto 4) 3, an 19 (.iload_n 1) 1, an 20 (.istore_n 2) 1, an 21 (.iconst 0) 1, an 22 (.bipush 99) 2, an 24 (.iload_n 2) 1, al 25 (.invokestatic 215) 3 18 0 0 0, al 28 (.invokestatic 220) 3 17 0 0 0, an 31 .ireturn 1]
-- 62: BluesAndGreens.race(I)I
def aC62 : List aN := [an 0 (.aload_n 0) 1, al 1 (.getfield 44) 3 20 10 36 0, al 4 (.getfield 115) 3 20 0 0 0, an 7 (.ifCond .ne 6) 3, an 10 (.bipush (-2)) 2, an 12 .ireturn 1, an 13 (.iload_n 1) 1, an 14 (.ifCond .lt 9) 3, an 17 (.iload_n 1) 1, an 18 (.bipush 60) 2, an 20 (.if_icmp .le 5) 3, an 23 (.iconst (-1)) 1, an 24 .ireturn 1, an 25 (.aload_n 0) 1, al 26 (.getfield 55) 3 20 10 52 0, an 29 (.aload_n 0) 1, al 30 (.getfield 51) 3 20 10 44 0, al 33 (.invokevirtual 223) 3 2 63 8 0, an 36 (.aload_n 0) 1, al 37 (.getfield 89) 3 20 10 108 0, an 40 (.aload_n 0) 1, al 41 (.getfield 44) 3 20 10 36 0, an 44 (.aload_n 0) 1, al 45 (.getfield 51) 3 20 10 44 0, an 48 (.aload_n 0) 1, al 49 (.getfield 79) 3 20 10 92 0, an 52 (.iload_n 1) 1, al 53 (.invokevirtual 226) 3 2 64 7 0, an 56 (.istore_n 2) 1, an 57 (.iload_n 1) 1, an 58 (.ifCond .le 14) 3, an 61 (.aload_n 0) 1, al 62 (.getfield 64) 3 20 10 68 0, an 65 (.aload_n 0) 1, al 66 (.getfield 55) 3 20 10 52 0, al 69 (.invokevirtual 230) 3 2 80 2 0, an 72 (.aload_n 0) 1, al 73 (.getfield 37) 3 20 10 28 0, an 76 (.aload_n 0) 1, al 77 (.getfield 89) 3 20 10 108 0, al 80 (.getfield 233) 3 20 7 0 0, an 83 .i2l 1, an 84 (.aload_n 0) 1, al 85 (.getfield 89) 3 20 10 108 0, al 88 (.getfield 236) 3 20 7 8 0, an 91 .i2l 1, al 92 (.invokevirtual 239) 3 2 82 4 0, an 95 (.iload_n 2) 1, an 96 .ireturn 1]
-- 63: BluesAndGreens$State.copy(LBluesAndGreens$State;)V
def aC63 : List aN := [an 0 (.aload_n 1) 1, al 1 (.getfield 11) 3 20 8 4 0, an 4 (.iconst 0) 1, an 5 (.aload_n 0) 1, al 6 (.getfield 11) 3 20 8 4 0, an 9 (.iconst 0) 1, an 10 (.bipush 32) 2, al 12 (.invokestatic 15) 3 11 0 0 0, an 15 .return_ 1]
-- 64: BluesAndGreens$Runs.run(LBluesAndGreens$City;LBluesAndGreens$State;LBluesAndGreens$Rule;I)I
def aC64 : List aN := [an 0 (.aload_n 0) 1, an 1 (.iconst (-1)) 1, al 2 (.putfield 9) 3 20 7 0 0, an 5 (.aload_n 0) 1, an 6 (.iconst 0) 1, al 7 (.putfield 15) 3 20 7 8 0, an 10 (.aload_n 0) 1, an 11 (.iconst 0) 1, al 12 (.putfield 18) 3 20 7 16 0, an 15 (.aload_n 0) 1, an 16 (.iconst 0) 1, al 17 (.putfield 21) 3 20 7 24 0, an 20 (.iconst 0) 1, an 21 (.istore 5) 2, an 23 (.iconst 0) 1, an 24 (.istore 6) 2, an 26 (.iconst 0) 1, an 27 (.istore 7) 2, an 29 (.iconst 0) 1, an 30 (.istore 8) 2, an 32 (.iload 8) 2, an 34 (.iload 4) 2, an 36 (.if_icmp .ge 130) 3, an 39 (.aload_n 0) 1, an 40 (.aload_n 2) 1, an 41 (.aload_n 1) 1, an 42 (.aload_n 3) 1, al 43 (.invokevirtual 24) 3 2 65 8 0, al 46 (.putfield 9) 3 20 7 0 0, an 49 (.aload_n 2) 1, an 50 (.aload_n 0) 1, al 51 (.getfield 9) 3 20 7 0 0, al 54 (.invokevirtual 30) 3 2 68 8 0, an 57 (.ifCond .ne 7) 3, an 60 (.iconst 1) 1, an 61 (.goto 4) 3, an 64 (.iconst 0) 1, an 65 (.istore 9) 2, an 67 (.iload 5) 2, an 69 (.iload 9) 2, an 71 (.ifCond .eq 7) 3, an 74 (.iconst 1) 1, an 75 (.goto 4) 3, an 78 (.iconst 0) 1, an 79 .iadd 1, an 80 (.istore 5) 2, an 82 (.iload 9) 2, an 84 (.ifCond .eq 10) 3, an 87 (.iload 6) 2, an 89 (.iconst 1) 1, an 90 .iadd 1, an 91 (.goto 4) 3, an 94 (.iconst 0) 1, an 95 (.istore 6) 2, an 97 (.iload 9) 2, an 99 (.ifCond .eq 7) 3, an 102 (.iconst 0) 1, an 103 (.goto 7) 3, an 106 (.iload 7) 2, an 108 (.iconst 1) 1, an 109 .iadd 1, an 110 (.istore 7) 2, an 112 (.aload_n 0) 1, an 113 (.aload_n 0) 1, al 114 (.getfield 18) 3 20 7 16 0, an 117 (.iload 6) 2, al 119 (.invokestatic 34) 3 17 0 0 0, al 122 (.putfield 18) 3 20 7 16 0, an 125 (.aload_n 0) 1, an 126 (.aload_n 0) 1, al 127 (.getfield 21) 3 20 7 24 0, an 130 (.iload 7) 2, al 132 (.invokestatic 34) 3 17 0 0 0, al 135 (.putfield 21) 3 20 7 24 0, an 138 (.aload_n 0) 1, an 139 .dup 1, al 140 (.getfield 15) 3 20 7 8 0, an 143 (.aload_n 2) 1, an 144 (.aload_n 1) 1, al 145 (.invokevirtual 40) 3 2 78 8 0, an 148 (.ifCond .eq 7) 3, an 151 (.iconst 1) 1, an 152 (.goto 4) 3, an 155 (.iconst 0) 1, an 156 .iadd 1, al 157 (.putfield 15) 3 20 7 8 0, an 160 (.iinc 8 1) 3, an 163 (.goto (-131)) 3, an 166 (.iload 5) 2, an 168 .ireturn 1]
-- 65: BluesAndGreens$State.runRace(LBluesAndGreens$City;LBluesAndGreens$Rule;)I
def aC65 : List aN := [an 0 (.aload_n 2) 1, an 1 (.aload_n 1) 1, an 2 (.aload_n 0) 1, an 3 (.iconst 0) 1, al 4 (.invokevirtual 60) 3 2 66 5 0, an 7 (.istore_n 3) 1, an 8 (.aload_n 0) 1, an 9 (.iload_n 3) 1, al 10 (.invokevirtual 34) 3 2 68 8 0, an 13 (.istore 4) 2, an 15 (.iload 4) 2, al 17 (.invokestatic 66) 3 4 75 0 0, an 20 (.ifCond .ne 5) 3, an 23 (.iconst (-1)) 1, an 24 .ireturn 1, an 25 (.aload_n 0) 1, al 26 (.getfield 11) 3 20 8 4 0, an 29 (.bipush 16) 2, an 31 (.iload_n 3) 1, an 32 .iadd 1, an 33 .dup2 1, an 34 .iaload 1, an 35 (.iconst 1) 1, an 36 .iadd 1, an 37 .iastore 1, an 38 (.aload_n 0) 1, al 39 (.getfield 11) 3 20 8 4 0, an 42 (.iconst 4) 1, an 43 (.iload 4) 2, an 45 .iadd 1, an 46 .dup2 1, an 47 .iaload 1, an 48 (.iconst 1) 1, an 49 .iadd 1, an 50 .iastore 1, an 51 (.aload_n 0) 1, an 52 (.iload 4) 2, an 54 (.bipush 10) 2, al 56 (.invokevirtual 70) 3 2 76 8 0, an 59 (.aload_n 0) 1, an 60 (.iconst 1) 1, an 61 (.iload 4) 2, an 63 .isub 1, an 64 (.iconst 3) 1, al 65 (.invokevirtual 74) 3 2 77 8 0, an 68 (.aload_n 0) 1, an 69 (.iload 4) 2, an 71 (.iconst (-1)) 1, al 72 (.invokevirtual 74) 3 2 77 8 0, an 75 (.aload_n 0) 1, al 76 (.getfield 11) 3 20 8 4 0, an 79 (.bipush 6) 2, an 81 .dup2 1, an 82 .iaload 1, an 83 (.iconst 1) 1, an 84 .iadd 1, an 85 .iastore 1, an 86 (.iload_n 3) 1, an 87 .ireturn 1]
-- 66: BluesAndGreens$Rule.fastest(LBluesAndGreens$City;LBluesAndGreens$State;I)I
def aC66 : List aN := [an 0 (.iconst (-1)) 1, an 1 (.istore 4) 2, an 3 (.iconst 0) 1, an 4 (.istore 5) 2, an 6 (.iconst 0) 1, an 7 (.istore 6) 2, an 9 (.iload 6) 2, an 11 (.aload_n 1) 1, al 12 (.getfield 39) 3 20 0 0 0, an 15 (.if_icmp .ge 53) 3, an 18 (.iload_n 3) 1, an 19 (.iload 6) 2, an 21 .ishr 1, an 22 (.iconst 1) 1, an 23 .iand 1, an 24 (.iconst 1) 1, an 25 (.if_icmp .ne 6) 3, an 28 (.goto 34) 3, an 31 (.aload_n 0) 1, an 32 (.aload_n 1) 1, an 33 (.aload_n 2) 1, an 34 (.iload 6) 2, al 36 (.invokevirtual 44) 3 2 67 5 0, an 39 (.istore 7) 2, an 41 (.iload 4) 2, an 43 (.iconst (-1)) 1, an 44 (.if_icmp .eq 10) 3, an 47 (.iload 7) 2, an 49 (.iload 5) 2, an 51 (.if_icmp .le 11) 3, an 54 (.iload 6) 2, an 56 (.istore 4) 2, an 58 (.iload 7) 2, an 60 (.istore 5) 2, an 62 (.iinc 6 1) 3, an 65 (.goto (-56)) 3, an 68 (.iload 4) 2, an 70 .ireturn 1]
-- 67: BluesAndGreens$Rule.strengthOf(LBluesAndGreens$City;LBluesAndGreens$State;I)I
def aC67_0 : List aN := [an 0 (.iload_n 3) 1, an 1 (.ifCond .lt 11) 3, an 4 (.iload_n 3) 1, an 5 (.aload_n 1) 1, al 6 (.getfield 39) 3 20 0 0 0, an 9 (.if_icmp .lt 5) 3, an 12 (.iconst 0) 1, an 13 .ireturn 1, an 14 (.aload_n 2) 1, an 15 (.iload_n 3) 1, al 16 (.invokevirtual 48) 3 2 68 8 0, an 19 (.istore 4) 2, an 21 (.aload_n 0) 1, al 22 (.getfield 23) 3 20 5 20 0, an 25 (.iconst 0) 1, an 26 (.aload_n 1) 1, al 27 (.getfield 54) 3 20 0 12 0, an 30 (.iload_n 3) 1, an 31 .iaload 1, an 32 .iastore 1, an 33 (.aload_n 0) 1, al 34 (.getfield 23) 3 20 5 20 0, an 37 (.iconst 1) 1, an 38 (.aload_n 2) 1, al 39 (.invokevirtual 57) 3 2 69 8 0, an 42 (.iload_n 3) 1, an 43 .ishr 1, an 44 (.iconst 1) 1, an 45 .iand 1, an 46 .iastore 1, an 47 (.aload_n 0) 1, al 48 (.getfield 23) 3 20 5 20 0, an 51 (.iconst 2) 1, an 52 (.iload_n 3) 1, an 53 .iastore 1, an 54 (.aload_n 0) 1, al 55 (.getfield 23) 3 20 5 20 0, an 58 (.iconst 3) 1, an 59 (.aload_n 2) 1, an 60 (.iload_n 3) 1, al 61 (.invokevirtual 60) 3 2 70 8 0, an 64 .iastore 1, an 65 (.aload_n 0) 1, al 66 (.getfield 23) 3 20 5 20 0, an 69 (.iconst 4) 1, an 70 (.aload_n 2) 1, al 71 (.invokevirtual 63) 3 2 71 8 0, an 74 (.bipush 8) 2, an 76 .irem 1, an 77 .iastore 1, an 78 (.aload_n 0) 1, al 79 (.getfield 23) 3 20 5 20 0, an 82 (.iconst 5) 1, an 83 (.iload 4) 2, an 85 .iastore 1, an 86 (.aload_n 0) 1, al 87 (.getfield 23) 3 20 5 20 0, an 90 (.bipush 6) 2, an 92 (.aload_n 2) 1, an 93 (.iload 4) 2, al 95 (.invokevirtual 66) 3 2 72 8 0, an 98 (.bipush 10) 2, an 100 .idiv 1, an 101 .iastore 1, an 102 (.aload_n 0) 1, al 103 (.getfield 23) 3 20 5 20 0, an 106 (.bipush 7) 2, an 108 (.aload_n 2) 1, an 109 (.iload 4) 2, al 111 (.invokevirtual 69) 3 2 73 8 0, an 114 .iastore 1, an 115 (.iconst 0) 1, an 116 (.istore 5) 2, an 118 (.iconst 0) 1, an 119 (.istore 6) 2, an 121 (.iload 6) 2, an 123 (.aload_n 0) 1, al 124 (.getfield 29) 3 20 5 8 0, an 127 (.if_icmp .ge 180) 3, an 130 (.iload 6) 2, an 132 (.aload_n 0) 1, al 133 (.getfield 9) 3 20 5 4 0, an 136 .arraylength 1, an 137 (.if_icmp .ge 170) 3, an 140 (.aload_n 0) 1, al 141 (.getfield 9) 3 20 5 4 0, an 144 (.iload 6) 2, an 146 .iaload 1, an 147 (.istore 7) 2, an 149 (.iload 7) 2, an 151 (.sipush 2000) 3, an 154 (.if_icmp .ge 61) 3, an 157 (.iload 5) 2, an 159 (.aload_n 0) 1, al 160 (.getfield 26) 3 20 5 28 0, an 163 .arraylength 1, an 164 (.if_icmp .ge 51) 3, an 167 (.iload 7) 2, an 169 (.sipush 1000) 3, an 172 .isub 1]
def aC67_1 : List aN := [an 173 (.istore 8) 2, an 175 (.aload_n 0) 1, al 176 (.getfield 26) 3 20 5 28 0, an 179 (.iload 5) 2, an 181 (.iload 8) 2, an 183 (.ifCond .lt 23) 3, an 186 (.iload 8) 2, an 188 (.aload_n 0) 1, al 189 (.getfield 23) 3 20 5 20 0, an 192 .arraylength 1, an 193 (.if_icmp .ge 13) 3, an 196 (.aload_n 0) 1, al 197 (.getfield 23) 3 20 5 20 0, an 200 (.iload 8) 2, an 202 .iaload 1, an 203 (.goto 5) 3, an 206 (.iload 7) 2, an 208 .iastore 1, an 209 (.iinc 5 1) 3, an 212 (.goto 89) 3, an 215 (.iload 7) 2, an 217 (.sipush 2256) 3, an 220 (.if_icmp .ne 30) 3, an 223 (.iload 5) 2, an 225 (.ifCond .le 25) 3, an 228 (.aload_n 0) 1, al 229 (.getfield 26) 3 20 5 28 0, an 232 (.iload 5) 2, an 234 (.iconst 1) 1, an 235 .isub 1, an 236 (.aload_n 0) 1, al 237 (.getfield 26) 3 20 5 28 0, an 240 (.iload 5) 2, an 242 (.iconst 1) 1, an 243 .isub 1, an 244 .iaload 1, an 245 .ineg 1, an 246 .iastore 1, an 247 (.goto 54) 3, an 250 (.iload 7) 2, an 252 (.sipush 2000) 3, an 255 (.if_icmp .lt 46) 3, an 258 (.iload 5) 2, an 260 (.iconst 1) 1, an 261 (.if_icmp .le 40) 3, an 264 (.iinc 5 (-1)) 3, an 267 (.aload_n 0) 1, al 268 (.getfield 26) 3 20 5 28 0, an 271 (.iload 5) 2, an 273 (.iconst 1) 1, an 274 .isub 1, an 275 (.iload 7) 2, an 277 (.sipush 2000) 3, an 280 .isub 1, an 281 (.aload_n 0) 1, al 282 (.getfield 26) 3 20 5 28 0, an 285 (.iload 5) 2, an 287 (.iconst 1) 1, an 288 .isub 1, an 289 .iaload 1, an 290 (.aload_n 0) 1, al 291 (.getfield 26) 3 20 5 28 0, an 294 (.iload 5) 2, an 296 .iaload 1, al 297 (.invokestatic 72) 3 1 74 0 0, an 300 .iastore 1, an 301 (.iinc 6 1) 3, an 304 (.goto (-183)) 3, an 307 (.aload_n 0) 1, al 308 (.getfield 26) 3 20 5 28 0, an 311 (.iconst 0) 1, an 312 .iaload 1, an 313 .ireturn 1]
def aC67 : List aN := aC67_0 ++ (aC67_1)
-- 68: BluesAndGreens$State.clubOf(I)I
def aC68 : List aN := [an 0 (.iload_n 1) 1, an 1 (.ifCond .lt 21) 3, an 4 (.iload_n 1) 1, an 5 (.bipush 8) 2, an 7 (.if_icmp .ge 15) 3, an 10 (.aload_n 0) 1, al 11 (.getfield 11) 3 20 8 4 0, an 14 (.bipush 8) 2, an 16 (.iload_n 1) 1, an 17 .iadd 1, an 18 .iaload 1, an 19 (.goto 4) 3, an 22 (.iconst (-1)) 1, an 23 .ireturn 1]
-- 69: BluesAndGreens$State.cursedOnes()I
def aC69 : List aN := [an 0 (.aload_n 0) 1, al 1 (.getfield 11) 3 20 8 4 0, an 4 (.bipush 7) 2, an 6 .iaload 1, an 7 .ireturn 1]
-- 70: BluesAndGreens$State.wonBy(I)I
def aC70 : List aN := [an 0 (.iload_n 1) 1, an 1 (.ifCond .lt 21) 3, an 4 (.iload_n 1) 1, an 5 (.bipush 8) 2, an 7 (.if_icmp .ge 15) 3, an 10 (.aload_n 0) 1, al 11 (.getfield 11) 3 20 8 4 0, an 14 (.bipush 16) 2, an 16 (.iload_n 1) 1, an 17 .iadd 1, an 18 .iaload 1, an 19 (.goto 4) 3, an 22 (.iconst 0) 1, an 23 .ireturn 1]
-- 71: BluesAndGreens$State.racesRun()I
def aC71 : List aN := [an 0 (.aload_n 0) 1, al 1 (.getfield 11) 3 20 8 4 0, an 4 (.bipush 6) 2, an 6 .iaload 1, an 7 .ireturn 1]
-- 72: BluesAndGreens$State.moneyOf(I)I
def aC72 : List aN := [an 0 (.iload_n 1) 1, an 1 (.ifCond .eq 8) 3, an 4 (.iload_n 1) 1, an 5 (.iconst 1) 1, an 6 (.if_icmp .ne 14) 3, an 9 (.aload_n 0) 1, al 10 (.getfield 11) 3 20 8 4 0, an 13 (.iconst 0) 1, an 14 (.iload_n 1) 1, an 15 .iadd 1, an 16 .iaload 1, an 17 (.goto 4) 3, an 20 (.iconst 0) 1, an 21 .ireturn 1]
-- 73: BluesAndGreens$State.angerOf(I)I
def aC73 : List aN := [an 0 (.iload_n 1) 1, an 1 (.ifCond .eq 8) 3, an 4 (.iload_n 1) 1, an 5 (.iconst 1) 1, an 6 (.if_icmp .ne 14) 3, an 9 (.aload_n 0) 1, al 10 (.getfield 11) 3 20 8 4 0, an 13 (.iconst 2) 1, an 14 (.iload_n 1) 1, an 15 .iadd 1, an 16 .iaload 1, an 17 (.goto 4) 3, an 20 (.iconst 0) 1, an 21 .ireturn 1]
-- 74: BluesAndGreens$Rule.joinTwo(III)I
def aC74 : List aN := [an 0 (.iload_n 0) 1, an 1 (.lookupswitch 104 #[(42, 100), (43, 92), (45, 96), (60, 59), (61, 81), (62, 70)]) 59, an 60 (.iload_n 1) 1, an 61 (.iload_n 2) 1, an 62 (.if_icmp .ge 7) 3, an 65 (.iconst 1) 1, an 66 (.goto 4) 3, an 69 (.iconst 0) 1, an 70 .ireturn 1, an 71 (.iload_n 1) 1, an 72 (.iload_n 2) 1, an 73 (.if_icmp .le 7) 3, an 76 (.iconst 1) 1, an 77 (.goto 4) 3, an 80 (.iconst 0) 1, an 81 .ireturn 1, an 82 (.iload_n 1) 1, an 83 (.iload_n 2) 1, an 84 (.if_icmp .ne 7) 3, an 87 (.iconst 1) 1, an 88 (.goto 4) 3, an 91 (.iconst 0) 1, an 92 .ireturn 1, an 93 (.iload_n 1) 1, an 94 (.iload_n 2) 1, an 95 .iadd 1, an 96 .ireturn 1, an 97 (.iload_n 1) 1, an 98 (.iload_n 2) 1, an 99 .isub 1, an 100 .ireturn 1, an 101 (.iload_n 1) 1, an 102 (.iload_n 2) 1, an 103 .imul 1, an 104 .ireturn 1, an 105 (.iload_n 2) 1, an 106 (.ifCond .ne 7) 3, an 109 (.iconst 0) 1, an 110 (.goto 6) 3, an 113 (.iload_n 1) 1, an 114 (.iload_n 2) 1, an 115 .idiv 1, an 116 .ireturn 1]
-- 75: BluesAndGreens.isClub(I)Z
def aC75 : List aN := [an 0 (.iload_n 0) 1, an 1 (.ifCond .eq 8) 3, an 4 (.iload_n 0) 1, an 5 (.iconst 1) 1, an 6 (.if_icmp .ne 7) 3, an 9 (.iconst 1) 1, an 10 (.goto 4) 3, an 13 (.iconst 0) 1, an 14 .ireturn 1]
-- 76: BluesAndGreens$State.addMoney(II)V
def aC76 : List aN := [an 0 (.aload_n 0) 1, al 1 (.getfield 11) 3 20 8 4 0, an 4 (.iconst 0) 1, an 5 (.iload_n 1) 1, an 6 .iadd 1, an 7 (.sipush 9999) 3, an 10 (.aload_n 0) 1, al 11 (.getfield 11) 3 20 8 4 0, an 14 (.iconst 0) 1, an 15 (.iload_n 1) 1, an 16 .iadd 1, an 17 .iaload 1, an 18 (.iload_n 2) 1, an 19 .iadd 1, al 20 (.invokestatic 44) 3 18 0 0 0, an 23 .iastore 1, an 24 .return_ 1]
-- 77: BluesAndGreens$State.addAnger(II)V
def aC77 : List aN := [an 0 (.aload_n 0) 1, al 1 (.getfield 11) 3 20 8 4 0, an 4 (.iconst 2) 1, an 5 (.iload_n 1) 1, an 6 .iadd 1, an 7 (.iconst 0) 1, an 8 (.sipush 999) 3, an 11 (.aload_n 0) 1, al 12 (.getfield 11) 3 20 8 4 0, an 15 (.iconst 2) 1, an 16 (.iload_n 1) 1, an 17 .iadd 1, an 18 .iaload 1, an 19 (.iload_n 2) 1, an 20 .iadd 1, al 21 (.invokestatic 44) 3 18 0 0 0, al 24 (.invokestatic 50) 3 17 0 0 0, an 27 .iastore 1, an 28 .return_ 1]
-- 78: BluesAndGreens$State.areJoined(LBluesAndGreens$City;)Z
def aC78 : List aN := [an 0 (.aload_n 0) 1, al 1 (.invokevirtual 53) 3 2 79 8 0, an 4 (.aload_n 1) 1, al 5 (.getfield 57) 3 20 0 88 0, an 8 (.if_icmp .lt 7) 3, an 11 (.iconst 1) 1, an 12 (.goto 4) 3, an 15 (.iconst 0) 1, an 16 .ireturn 1]
-- 79: BluesAndGreens$State.lesserAnger()I
def aC79 : List aN := [an 0 (.aload_n 0) 1, al 1 (.getfield 11) 3 20 8 4 0, an 4 (.iconst 2) 1, an 5 .iaload 1, an 6 (.aload_n 0) 1, al 7 (.getfield 11) 3 20 8 4 0, an 10 (.iconst 3) 1, an 11 .iaload 1, al 12 (.invokestatic 44) 3 18 0 0 0, an 15 .ireturn 1]
-- 80: BluesAndGreens$Past.push(LBluesAndGreens$State;)V
def aC80 : List aN := [an 0 (.aload_n 1) 1, an 1 (.aload_n 0) 1, al 2 (.getfield 13) 3 20 2 4 0, an 5 (.aload_n 0) 1, al 6 (.getfield 21) 3 20 2 16 0, al 9 (.invokevirtual 24) 3 2 81 8 0, an 12 (.aload_n 0) 1, an 13 (.aload_n 0) 1, al 14 (.getfield 21) 3 20 2 16 0, an 17 (.iconst 1) 1, an 18 .iadd 1, an 19 (.bipush 12) 2, an 21 (.if_icmp .ge 12) 3, an 24 (.aload_n 0) 1, al 25 (.getfield 21) 3 20 2 16 0, an 28 (.iconst 1) 1, an 29 .iadd 1, an 30 (.goto 4) 3, an 33 (.iconst 0) 1, al 34 (.putfield 21) 3 20 2 16 0, an 37 (.aload_n 0) 1, an 38 (.bipush 12) 2, an 40 (.aload_n 0) 1, al 41 (.getfield 17) 3 20 2 8 0, an 44 (.iconst 1) 1, an 45 .iadd 1, al 46 (.invokestatic 28) 3 18 0 0 0, al 49 (.putfield 17) 3 20 2 8 0, an 52 .return_ 1]
-- 81: BluesAndGreens$State.write([II)V
def aC81 : List aN := [an 0 (.iload_n 2) 1, an 1 (.ifCond .lt 29) 3, an 4 (.iload_n 2) 1, an 5 (.iconst 1) 1, an 6 .iadd 1, an 7 (.bipush 32) 2, an 9 .imul 1, an 10 (.aload_n 1) 1, an 11 .arraylength 1, an 12 (.if_icmp .gt 18) 3, an 15 (.aload_n 0) 1, al 16 (.getfield 11) 3 20 8 4 0, an 19 (.iconst 0) 1, an 20 (.aload_n 1) 1, an 21 (.iload_n 2) 1, an 22 (.bipush 32) 2, an 24 .imul 1, an 25 (.bipush 32) 2, al 27 (.invokestatic 15) 3 11 0 0 0, an 30 .return_ 1]
-- 82: BluesAndGreens$Row.tellTwo(JJ)V
def aC82 : List aN := [an 0 (.aload_n 0) 1, an 1 (.lload_n 1) 1, al 2 (.invokevirtual 26) 3 2 83 4 0, an 5 (.aload_n 0) 1, an 6 (.lload_n 3) 1, al 7 (.invokevirtual 22) 3 2 85 4 0, an 10 .return_ 1]
-- 83: BluesAndGreens$Row.tellOne(J)V
def aC83 : List aN := [an 0 (.aload_n 0) 1, al 1 (.invokevirtual 19) 3 2 84 4 0, an 4 (.aload_n 0) 1, an 5 (.lload_n 1) 1, al 6 (.invokevirtual 22) 3 2 85 4 0, an 9 .return_ 1]
-- 84: BluesAndGreens$Row.clear()V
def aC84 : List aN := [an 0 (.aload_n 0) 1, an 1 (.iconst 0) 1, al 2 (.putfield 15) 3 20 4 8 0, an 5 .return_ 1]
-- 85: BluesAndGreens$Row.add(J)V
def aC85 : List aN := [an 0 (.aload_n 0) 1, al 1 (.getfield 15) 3 20 4 8 0, an 4 (.ifCond .lt 35) 3, an 7 (.aload_n 0) 1, al 8 (.getfield 15) 3 20 4 8 0, an 11 (.aload_n 0) 1, al 12 (.getfield 9) 3 20 4 4 0, an 15 .arraylength 1, an 16 (.if_icmp .ge 23) 3, an 19 (.aload_n 0) 1, al 20 (.getfield 9) 3 20 4 4 0, an 23 (.aload_n 0) 1, al 24 (.getfield 15) 3 20 4 8 0, an 27 (.lload_n 1) 1, an 28 .lastore 1, an 29 (.aload_n 0) 1, an 30 .dup 1, al 31 (.getfield 15) 3 20 4 8 0, an 34 (.iconst 1) 1, an 35 .iadd 1, al 36 (.putfield 15) 3 20 4 8 0, an 39 .return_ 1]
-- 86: BluesAndGreens.buy(II)I
def aC86 : List aN := [an 0 (.aload_n 0) 1, al 1 (.getfield 55) 3 20 10 52 0, an 4 (.aload_n 0) 1, al 5 (.getfield 51) 3 20 10 44 0, al 8 (.invokevirtual 223) 3 2 63 8 0, an 11 (.aload_n 0) 1, an 12 (.aload_n 0) 1, al 13 (.getfield 51) 3 20 10 44 0, an 16 (.aload_n 0) 1, al 17 (.getfield 44) 3 20 10 36 0, an 20 (.iload_n 1) 1, an 21 (.iload_n 2) 1, al 22 (.invokevirtual 243) 3 2 87 8 0, al 25 (.invokevirtual 247) 3 2 89 10 0, an 28 .ireturn 1]
-- 87: BluesAndGreens$State.purchase(LBluesAndGreens$City;II)I
def aC87 : List aN := [an 0 (.iload_n 2) 1, al 1 (.invokestatic 66) 3 4 75 0 0, an 4 (.ifCond .eq 11) 3, an 7 (.aload_n 1) 1, an 8 (.iload_n 3) 1, al 9 (.invokevirtual 77) 3 2 88 0 0, an 12 (.ifCond .ne 5) 3, an 15 (.iconst (-1)) 1, an 16 .ireturn 1, an 17 (.aload_n 0) 1, an 18 (.iload_n 3) 1, al 19 (.invokevirtual 34) 3 2 68 8 0, an 22 (.iload_n 2) 1, an 23 (.if_icmp .ne 6) 3, an 26 (.bipush (-2)) 2, an 28 .ireturn 1, an 29 (.aload_n 1) 1, al 30 (.getfield 80) 3 20 0 20 0, an 33 (.iload_n 3) 1, an 34 .iaload 1, an 35 (.istore 4) 2, an 37 (.aload_n 0) 1, an 38 (.iload_n 2) 1, al 39 (.invokevirtual 83) 3 2 72 8 0, an 42 (.iload 4) 2, an 44 (.if_icmp .ge 6) 3, an 47 (.bipush (-3)) 2, an 49 .ireturn 1, an 50 (.aload_n 0) 1, an 51 (.iload_n 2) 1, an 52 (.iload 4) 2, an 54 .ineg 1, al 55 (.invokevirtual 70) 3 2 76 8 0, an 58 (.aload_n 0) 1, an 59 (.iconst 1) 1, an 60 (.iload_n 2) 1, an 61 .isub 1, an 62 (.iload 4) 2, al 64 (.invokevirtual 70) 3 2 76 8 0, an 67 (.aload_n 0) 1, al 68 (.getfield 11) 3 20 8 4 0, an 71 (.bipush 8) 2, an 73 (.iload_n 3) 1, an 74 .iadd 1, an 75 (.iload_n 2) 1, an 76 .iastore 1, an 77 (.aload_n 0) 1, an 78 (.iload_n 2) 1, al 79 (.invokevirtual 83) 3 2 72 8 0, an 82 .ireturn 1]
-- 88: BluesAndGreens$City.hasDriver(I)Z
def aC88 : List aN := [an 0 (.iload_n 1) 1, an 1 (.ifCond .lt 15) 3, an 4 (.iload_n 1) 1, an 5 (.aload_n 0) 1, al 6 (.getfield 40) 3 20 0 0 0, an 9 (.if_icmp .ge 7) 3, an 12 (.iconst 1) 1, an 13 (.goto 4) 3, an 16 (.iconst 0) 1, an 17 .ireturn 1]
-- 89: BluesAndGreens.remembered(I)I
def aC89 : List aN := [an 0 (.iload_n 1) 1, an 1 (.ifCond .lt 14) 3, an 4 (.aload_n 0) 1, al 5 (.getfield 64) 3 20 10 68 0, an 8 (.aload_n 0) 1, al 9 (.getfield 55) 3 20 10 52 0, al 12 (.invokevirtual 230) 3 2 80 2 0, an 15 (.iload_n 1) 1, an 16 .ireturn 1]
-- 90: BluesAndGreens.curse(II)I
def aC90 : List aN := [an 0 (.aload_n 0) 1, al 1 (.getfield 55) 3 20 10 52 0, an 4 (.aload_n 0) 1, al 5 (.getfield 51) 3 20 10 44 0, al 8 (.invokevirtual 223) 3 2 63 8 0, an 11 (.aload_n 0) 1, an 12 (.aload_n 0) 1, al 13 (.getfield 51) 3 20 10 44 0, an 16 (.aload_n 0) 1, al 17 (.getfield 44) 3 20 10 36 0, an 20 (.iload_n 1) 1, an 21 (.iload_n 2) 1, al 22 (.invokevirtual 250) 3 2 91 8 0, al 25 (.invokevirtual 247) 3 2 89 10 0, an 28 .ireturn 1]
-- 91: BluesAndGreens$State.hex(LBluesAndGreens$City;II)I
def aC91 : List aN := [an 0 (.iload_n 2) 1, al 1 (.invokestatic 66) 3 4 75 0 0, an 4 (.ifCond .eq 11) 3, an 7 (.aload_n 1) 1, an 8 (.iload_n 3) 1, al 9 (.invokevirtual 77) 3 2 88 0 0, an 12 (.ifCond .ne 5) 3, an 15 (.iconst (-1)) 1, an 16 .ireturn 1, an 17 (.aload_n 0) 1, an 18 (.iload_n 3) 1, al 19 (.invokevirtual 34) 3 2 68 8 0, an 22 (.iload_n 2) 1, an 23 (.if_icmp .ne 6) 3, an 26 (.bipush (-2)) 2, an 28 .ireturn 1, an 29 (.aload_n 0) 1, an 30 (.iload_n 3) 1, al 31 (.invokevirtual 86) 3 2 92 8 0, an 34 (.ifCond .eq 6) 3, an 37 (.bipush (-3)) 2, an 39 .ireturn 1, an 40 (.aload_n 0) 1, an 41 (.iload_n 2) 1, al 42 (.invokevirtual 83) 3 2 72 8 0, an 45 (.iconst 5) 1, an 46 (.if_icmp .ge 6) 3, an 49 (.bipush (-4)) 2, an 51 .ireturn 1, an 52 (.aload_n 0) 1, an 53 (.iload_n 2) 1, an 54 (.bipush (-5)) 2, al 56 (.invokevirtual 70) 3 2 76 8 0, an 59 (.aload_n 0) 1, al 60 (.getfield 11) 3 20 8 4 0, an 63 (.bipush 7) 2, an 65 .dup2 1, an 66 .iaload 1, an 67 (.iconst 1) 1, an 68 (.iload_n 3) 1, an 69 .ishl 1, an 70 .ior 1, an 71 .iastore 1, an 72 (.aload_n 0) 1, an 73 (.iload_n 2) 1, al 74 (.invokevirtual 83) 3 2 72 8 0, an 77 .ireturn 1]
-- 92: BluesAndGreens$State.isCursed(I)Z
def aC92 : List aN := [an 0 (.aload_n 0) 1, al 1 (.getfield 11) 3 20 8 4 0, an 4 (.bipush 7) 2, an 6 .iaload 1, an 7 (.iload_n 1) 1, al 8 (.invokestatic 30) 3 4 93 0 0, an 11 .ireturn 1]
-- 93: BluesAndGreens.has(II)Z
def aC93 : List aN := [an 0 (.iload_n 0) 1, an 1 (.iload_n 1) 1, an 2 .ishr 1, an 3 (.iconst 1) 1, an 4 .iand 1, an 5 (.iconst 1) 1, an 6 (.if_icmp .ne 7) 3, an 9 (.iconst 1) 1, an 10 (.goto 4) 3, an 13 (.iconst 0) 1, an 14 .ireturn 1]
-- 94: BluesAndGreens.dig(I)I
def aC94 : List aN := [an 0 (.aload_n 0) 1, al 1 (.getfield 55) 3 20 10 52 0, an 4 (.aload_n 0) 1, al 5 (.getfield 51) 3 20 10 44 0, al 8 (.invokevirtual 223) 3 2 63 8 0, an 11 (.aload_n 0) 1, an 12 (.aload_n 0) 1, al 13 (.getfield 51) 3 20 10 44 0, an 16 (.aload_n 0) 1, al 17 (.getfield 44) 3 20 10 36 0, an 20 (.iload_n 1) 1, al 21 (.invokevirtual 253) 3 2 95 8 0, al 24 (.invokevirtual 247) 3 2 89 10 0, an 27 .ireturn 1]
-- 95: BluesAndGreens$State.cleanse(LBluesAndGreens$City;I)I
def aC95 : List aN := [an 0 (.aload_n 1) 1, an 1 (.iload_n 2) 1, al 2 (.invokevirtual 77) 3 2 88 0 0, an 5 (.ifCond .ne 5) 3, an 8 (.iconst (-1)) 1, an 9 .ireturn 1, an 10 (.aload_n 0) 1, an 11 (.iload_n 2) 1, al 12 (.invokevirtual 86) 3 2 92 8 0, an 15 (.ifCond .ne 6) 3, an 18 (.bipush (-2)) 2, an 20 .ireturn 1, an 21 (.aload_n 0) 1, an 22 (.iload_n 2) 1, al 23 (.invokevirtual 34) 3 2 68 8 0, an 26 (.istore_n 3) 1, an 27 (.iload_n 3) 1, al 28 (.invokestatic 66) 3 4 75 0 0, an 31 (.ifCond .eq 12) 3, an 34 (.aload_n 0) 1, an 35 (.iload_n 3) 1, al 36 (.invokevirtual 83) 3 2 72 8 0, an 39 (.iconst 3) 1, an 40 (.if_icmp .ge 6) 3, an 43 (.bipush (-3)) 2, an 45 .ireturn 1, an 46 (.aload_n 0) 1, an 47 (.iload_n 3) 1, an 48 (.bipush (-3)) 2, al 50 (.invokevirtual 70) 3 2 76 8 0, an 53 (.aload_n 0) 1, al 54 (.getfield 11) 3 20 8 4 0, an 57 (.bipush 7) 2, an 59 .dup2 1, an 60 .iaload 1, an 61 (.iconst 1) 1, an 62 (.iload_n 2) 1, an 63 .ishl 1, an 64 (.iconst (-1)) 1, an 65 .ixor 1, an 66 .iand 1, an 67 .iastore 1, an 68 (.aload_n 0) 1, an 69 (.iload_n 3) 1, al 70 (.invokevirtual 83) 3 2 72 8 0, an 73 .ireturn 1]
-- 96: BluesAndGreens.grain(II)I
def aC96 : List aN := [an 0 (.aload_n 0) 1, al 1 (.getfield 55) 3 20 10 52 0, an 4 (.aload_n 0) 1, al 5 (.getfield 51) 3 20 10 44 0, al 8 (.invokevirtual 223) 3 2 63 8 0, an 11 (.aload_n 0) 1, an 12 (.aload_n 0) 1, al 13 (.getfield 51) 3 20 10 44 0, an 16 (.iload_n 1) 1, an 17 (.iload_n 2) 1, al 18 (.invokevirtual 256) 3 2 97 8 0, al 21 (.invokevirtual 247) 3 2 89 10 0, an 24 .ireturn 1]
-- 97: BluesAndGreens$State.feed(II)I
def aC97 : List aN := [an 0 (.iload_n 1) 1, al 1 (.invokestatic 66) 3 4 75 0 0, an 4 (.ifCond .eq 14) 3, an 7 (.iload_n 2) 1, an 8 (.iconst 1) 1, an 9 (.if_icmp .lt 9) 3, an 12 (.iload_n 2) 1, an 13 (.bipush 99) 2, an 15 (.if_icmp .le 5) 3, an 18 (.iconst (-1)) 1, an 19 .ireturn 1, an 20 (.aload_n 0) 1, an 21 (.iload_n 1) 1, an 22 (.iload_n 2) 1, an 23 .ineg 1, al 24 (.invokevirtual 74) 3 2 77 8 0, an 27 (.aload_n 0) 1, an 28 (.iload_n 1) 1, al 29 (.invokevirtual 89) 3 2 73 8 0, an 32 .ireturn 1]
-- 98: BluesAndGreens.show(II)I
def aC98 : List aN := [an 0 (.aload_n 0) 1, al 1 (.getfield 55) 3 20 10 52 0, an 4 (.aload_n 0) 1, al 5 (.getfield 51) 3 20 10 44 0, al 8 (.invokevirtual 223) 3 2 63 8 0, an 11 (.aload_n 0) 1, an 12 (.aload_n 0) 1, al 13 (.getfield 51) 3 20 10 44 0, an 16 (.aload_n 0) 1, al 17 (.getfield 44) 3 20 10 36 0, an 20 (.iload_n 1) 1, an 21 (.iload_n 2) 1, al 22 (.invokevirtual 259) 3 2 99 8 0, al 25 (.invokevirtual 247) 3 2 89 10 0, an 28 .ireturn 1]
-- 99: BluesAndGreens$State.takeSide(LBluesAndGreens$City;II)I
def aC99 : List aN := [an 0 (.aload_n 1) 1, an 1 (.iload_n 2) 1, al 2 (.invokevirtual 92) 3 2 100 0 0, an 5 (.ifCond .eq 12) 3, an 8 (.iload_n 3) 1, an 9 (.ifCond .lt 8) 3, an 12 (.iload_n 3) 1, an 13 (.iconst 1) 1, an 14 (.if_icmp .le 5) 3, an 17 (.iconst (-1)) 1, an 18 .ireturn 1, an 19 (.aload_n 0) 1, an 20 (.iload_n 2) 1, al 21 (.invokevirtual 41) 3 2 101 8 0, an 24 (.iconst (-1)) 1, an 25 (.if_icmp .eq 6) 3, an 28 (.bipush (-2)) 2, an 30 .ireturn 1, an 31 (.aload_n 0) 1, an 32 (.iconst 0) 1, an 33 (.aload_n 1) 1, al 34 (.getfield 95) 3 20 0 84 0, an 37 (.iconst 4) 1, an 38 (.iload_n 2) 1, an 39 .imul 1, an 40 (.iload_n 3) 1, an 41 .iadd 1, an 42 .iaload 1, al 43 (.invokevirtual 74) 3 2 77 8 0, an 46 (.aload_n 0) 1, an 47 (.iconst 1) 1, an 48 (.aload_n 1) 1, al 49 (.getfield 95) 3 20 0 84 0, an 52 (.iconst 4) 1, an 53 (.iload_n 2) 1, an 54 .imul 1, an 55 (.iconst 2) 1, an 56 .iadd 1, an 57 (.iload_n 3) 1, an 58 .iadd 1, an 59 .iaload 1, al 60 (.invokevirtual 74) 3 2 77 8 0, an 63 (.aload_n 0) 1, al 64 (.getfield 11) 3 20 8 4 0, an 67 (.bipush 24) 2, an 69 (.iload_n 2) 1, an 70 .iadd 1, an 71 (.iload_n 3) 1, an 72 .iastore 1, an 73 (.aload_n 0) 1, an 74 (.aload_n 1) 1, al 75 (.invokevirtual 98) 3 2 78 8 0, an 78 (.ifCond .eq 7) 3, an 81 (.iconst 1) 1, an 82 (.goto 4) 3, an 85 (.iconst 0) 1, an 86 .ireturn 1]
-- 100: BluesAndGreens$City.hasQuarrel(I)Z
def aC100 : List aN := [an 0 (.iload_n 1) 1, an 1 (.ifCond .lt 15) 3, an 4 (.iload_n 1) 1, an 5 (.aload_n 0) 1, al 6 (.getfield 43) 3 20 0 72 0, an 9 (.if_icmp .ge 7) 3, an 12 (.iconst 1) 1, an 13 (.goto 4) 3, an 16 (.iconst 0) 1, an 17 .ireturn 1]
-- 101: BluesAndGreens$State.sideOf(I)I
def aC101 : List aN := [an 0 (.iload_n 1) 1, an 1 (.ifCond .lt 21) 3, an 4 (.iload_n 1) 1, an 5 (.bipush 8) 2, an 7 (.if_icmp .ge 15) 3, an 10 (.aload_n 0) 1, al 11 (.getfield 11) 3 20 8 4 0, an 14 (.bipush 24) 2, an 16 (.iload_n 1) 1, an 17 .iadd 1, an 18 .iaload 1, an 19 (.goto 4) 3, an 22 (.iconst (-1)) 1, an 23 .ireturn 1]
-- 102: BluesAndGreens.season()I
def aC102 : List aN := [an 0 (.aload_n 0) 1, al 1 (.getfield 21) 3 20 10 12 0, an 4 (.aload_n 0) 1, al 5 (.getfield 100) 3 20 10 124 0, al 8 (.invokevirtual 262) 3 2 103 3 0, an 11 (.istore_n 1) 1, an 12 (.aload_n 0) 1, al 13 (.getfield 12) 3 20 10 4 0, an 16 (.iconst 0) 1, al 17 (.invokevirtual 111) 3 2 42 9 0, an 20 .pop 1, an 21 (.iload_n 1) 1, an 22 (.ifCond .ge 5) 3, an 25 (.iload_n 1) 1, an 26 .ireturn 1, an 27 (.aload_n 0) 1, al 28 (.getfield 55) 3 20 10 52 0, an 31 (.aload_n 0) 1, al 32 (.getfield 51) 3 20 10 44 0, al 35 (.invokevirtual 223) 3 2 63 8 0, an 38 (.iconst 0) 1, an 39 (.istore_n 2) 1, an 40 (.iload_n 2) 1, an 41 (.iload_n 1) 1, an 42 (.if_icmp .ge 20) 3, an 45 (.aload_n 0) 1, an 46 (.iload_n 2) 1, al 47 (.invokevirtual 266) 3 2 104 10 0, an 50 (.ifCond .ge 6) 3, an 53 (.goto 9) 3, an 56 (.iinc 2 1) 3, an 59 (.goto (-19)) 3, an 62 (.iload_n 2) 1, an 63 (.ifCond .le 14) 3, an 66 (.aload_n 0) 1, al 67 (.getfield 64) 3 20 10 68 0, an 70 (.aload_n 0) 1, al 71 (.getfield 55) 3 20 10 52 0, al 74 (.invokevirtual 230) 3 2 80 2 0, an 77 (.aload_n 0) 1, al 78 (.getfield 37) 3 20 10 28 0, an 81 (.iload_n 2) 1, an 82 (.iload_n 1) 1, an 83 (.if_icmp .ge 7) 3, an 86 (.lconst 1) 1, an 87 (.goto 4) 3, an 90 (.lconst 0) 1, an 91 (.aload_n 0) 1, al 92 (.getfield 51) 3 20 10 44 0, an 95 (.aload_n 0) 1, al 96 (.getfield 44) 3 20 10 36 0, al 99 (.invokevirtual 269) 3 2 78 8 0, an 102 (.ifCond .eq 7) 3, an 105 (.lconst 1) 1, an 106 (.goto 4) 3, an 109 (.lconst 0) 1, al 110 (.invokevirtual 239) 3 2 82 4 0, an 113 (.iload_n 2) 1, an 114 .ireturn 1]
-- 103: BluesAndGreens$Reader.actsInto([I)I
def aC103 : List aN := [an 0 (.aload_n 0) 1, an 1 (.bipush 60) 2, al 3 (.invokevirtual 49) 3 2 29 3 0, an 6 (.iconst 0) 1, an 7 (.istore_n 2) 1, an 8 (.iconst 0) 1, an 9 (.istore_n 3) 1, an 10 (.iload_n 3) 1, an 11 (.iconst 2) 1, an 12 .iadd 1, an 13 (.aload_n 1) 1, an 14 .arraylength 1, an 15 (.if_icmp .ge 235) 3, an 18 (.aload_n 0) 1, al 19 (.invokevirtual 38) 3 2 30 3 0, an 22 (.iconst (-1)) 1, an 23 (.if_icmp .eq 227) 3, an 26 (.aload_n 0) 1, al 27 (.invokevirtual 38) 3 2 30 3 0, an 30 (.istore 4) 2, an 32 (.aload_n 1) 1, an 33 (.iload_n 3) 1, an 34 (.iload 4) 2, an 36 .iastore 1, an 37 (.aload_n 1) 1, an 38 (.iload_n 3) 1, an 39 (.iconst 2) 1, an 40 .iadd 1, an 41 (.iconst 0) 1, an 42 .iastore 1, an 43 (.iload 4) 2, an 45 (.tableswitch 188 98 115 #[110, 110, 87, 188, 188, 110, 188, 188, 188, 188, 188, 188, 188, 188, 188, 188, 87, 149]) 87, an 132 (.aload_n 0) 1, al 133 (.invokevirtual 42) 3 2 33 3 0, an 136 (.aload_n 1) 1, an 137 (.iload_n 3) 1, an 138 (.iconst 1) 1, an 139 .iadd 1, an 140 (.aload_n 0) 1, an 141 (.bipush 48) 2, an 143 (.bipush 57) 2, al 145 (.invokevirtual 45) 3 2 36 3 0, an 148 (.bipush 48) 2, an 150 .isub 1, an 151 .iastore 1, an 152 (.goto 89) 3, an 155 (.aload_n 0) 1, al 156 (.invokevirtual 42) 3 2 33 3 0, an 159 (.aload_n 1) 1, an 160 (.iload_n 3) 1, an 161 (.iconst 1) 1, an 162 .iadd 1, an 163 (.aload_n 0) 1, an 164 (.bipush 48) 2, an 166 (.bipush 49) 2, al 168 (.invokevirtual 45) 3 2 36 3 0, an 171 (.bipush 48) 2, an 173 .isub 1, an 174 .iastore 1, an 175 (.aload_n 1) 1, an 176 (.iload_n 3) 1, an 177 (.iconst 2) 1, an 178 .iadd 1, an 179 (.aload_n 0) 1, an 180 (.bipush 48) 2, an 182 (.bipush 57) 2, al 184 (.invokevirtual 45) 3 2 36 3 0, an 187 (.bipush 48) 2, an 189 .isub 1, an 190 .iastore 1, an 191 (.goto 50) 3, an 194 (.aload_n 0) 1, al 195 (.invokevirtual 42) 3 2 33 3 0, an 198 (.aload_n 1) 1, an 199 (.iload_n 3) 1, an 200 (.iconst 1) 1, an 201 .iadd 1, an 202 (.aload_n 0) 1, an 203 (.bipush 48) 2, an 205 (.bipush 57) 2, al 207 (.invokevirtual 45) 3 2 36 3 0, an 210 (.bipush 48) 2, an 212 .isub 1, an 213 .iastore 1, an 214 (.aload_n 1) 1, an 215 (.iload_n 3) 1, an 216 (.iconst 2) 1, an 217 .iadd 1, an 218 (.aload_n 0) 1, an 219 (.bipush 48) 2, an 221 (.bipush 49) 2, al 223 (.invokevirtual 45) 3 2 36 3 0, an 226 (.bipush 48) 2, an 228 .isub 1, an 229 .iastore 1, an 230 (.goto 11) 3, an 233 (.aload_n 0) 1, an 234 (.aload_n 0) 1, al 235 (.getfield 19) 3 20 3 16 0, al 238 (.invokevirtual 34) 3 2 37 3 0, an 241 (.iinc 2 1) 3, an 244 (.iinc 3 3) 3, an 247 (.goto (-237)) 3, an 250 (.aload_n 0) 1, an 251 (.iload_n 2) 1, al 252 (.invokevirtual 56) 3 2 41 3 0, an 255 .ireturn 1]
-- 104: BluesAndGreens.doAct(I)I
def aC104 : List aN := [an 0 (.iconst 3) 1, an 1 (.iload_n 1) 1, an 2 .imul 1, an 3 (.istore_n 2) 1, an 4 (.iload_n 2) 1, an 5 (.ifCond .lt 14) 3, an 8 (.iload_n 2) 1, an 9 (.iconst 2) 1, an 10 .iadd 1, an 11 (.aload_n 0) 1, al 12 (.getfield 100) 3 20 10 124 0, an 15 .arraylength 1, an 16 (.if_icmp .lt 5) 3, an 19 (.iconst (-1)) 1, an 20 .ireturn 1, an 21 (.aload_n 0) 1, al 22 (.getfield 100) 3 20 10 124 0, an 25 (.iload_n 2) 1, an 26 (.iconst 1) 1, an 27 .iadd 1, an 28 .iaload 1, an 29 (.istore_n 3) 1, an 30 (.aload_n 0) 1, al 31 (.getfield 100) 3 20 10 124 0, an 34 (.iload_n 2) 1, an 35 (.iconst 2) 1, an 36 .iadd 1, an 37 .iaload 1, an 38 (.istore 4) 2, an 40 (.aload_n 0) 1, al 41 (.getfield 100) 3 20 10 124 0, an 44 (.iload_n 2) 1, an 45 .iaload 1, an 46 (.tableswitch 191 98 115 #[122, 137, 152, 191, 191, 165, 191, 191, 191, 191, 191, 191, 191, 191, 191, 191, 86, 176]) 86, an 132 (.aload_n 0) 1, al 133 (.getfield 44) 3 20 10 36 0, al 136 (.getfield 115) 3 20 0 0 0, an 139 (.ifCond .ne 8) 3, an 142 (.bipush (-2)) 2, an 144 (.goto 23) 3, an 147 (.aload_n 0) 1, al 148 (.getfield 89) 3 20 10 108 0, an 151 (.aload_n 0) 1, al 152 (.getfield 44) 3 20 10 36 0, an 155 (.aload_n 0) 1, al 156 (.getfield 51) 3 20 10 44 0, an 159 (.aload_n 0) 1, al 160 (.getfield 79) 3 20 10 92 0, an 163 (.iload_n 3) 1, al 164 (.invokevirtual 226) 3 2 64 7 0, an 167 .ireturn 1, an 168 (.aload_n 0) 1, al 169 (.getfield 51) 3 20 10 44 0, an 172 (.aload_n 0) 1, al 173 (.getfield 44) 3 20 10 36 0, an 176 (.iload_n 3) 1, an 177 (.iload 4) 2, al 179 (.invokevirtual 243) 3 2 87 8 0, an 182 .ireturn 1, an 183 (.aload_n 0) 1, al 184 (.getfield 51) 3 20 10 44 0, an 187 (.aload_n 0) 1, al 188 (.getfield 44) 3 20 10 36 0, an 191 (.iload_n 3) 1, an 192 (.iload 4) 2, al 194 (.invokevirtual 250) 3 2 91 8 0, an 197 .ireturn 1, an 198 (.aload_n 0) 1, al 199 (.getfield 51) 3 20 10 44 0, an 202 (.aload_n 0) 1, al 203 (.getfield 44) 3 20 10 36 0, an 206 (.iload_n 3) 1, al 207 (.invokevirtual 253) 3 2 95 8 0, an 210 .ireturn 1, an 211 (.aload_n 0) 1, al 212 (.getfield 51) 3 20 10 44 0, an 215 (.iload_n 3) 1, an 216 (.iload 4) 2, al 218 (.invokevirtual 256) 3 2 97 8 0, an 221 .ireturn 1, an 222 (.aload_n 0) 1, al 223 (.getfield 51) 3 20 10 44 0, an 226 (.aload_n 0) 1, al 227 (.getfield 44) 3 20 10 36 0, an 230 (.iload_n 3) 1, an 231 (.iload 4) 2, al 233 (.invokevirtual 259) 3 2 99 8 0, an 236 .ireturn 1, an 237 (.iconst (-1)) 1, an 238 .ireturn 1]
-- 105: BluesAndGreens.undo()I
def aC105 : List aN := [an 0 (.aload_n 0) 1, al 1 (.getfield 64) 3 20 10 68 0, an 4 (.aload_n 0) 1, al 5 (.getfield 51) 3 20 10 44 0, al 8 (.invokevirtual 273) 3 2 106 2 0, an 11 .ireturn 1]
-- 106: BluesAndGreens$Past.pop(LBluesAndGreens$State;)I
def aC106 : List aN := [an 0 (.aload_n 0) 1, al 1 (.getfield 17) 3 20 2 8 0, an 4 (.ifCond .ne 5) 3, an 7 (.iconst (-1)) 1, an 8 .ireturn 1, an 9 (.aload_n 0) 1, an 10 (.aload_n 0) 1, al 11 (.getfield 21) 3 20 2 16 0, an 14 (.ifCond .le 12) 3, an 17 (.aload_n 0) 1, al 18 (.getfield 21) 3 20 2 16 0, an 21 (.iconst 1) 1, an 22 .isub 1, an 23 (.goto 5) 3, an 26 (.bipush 11) 2, al 28 (.putfield 21) 3 20 2 16 0, an 31 (.aload_n 1) 1, an 32 (.aload_n 0) 1, al 33 (.getfield 13) 3 20 2 4 0, an 36 (.aload_n 0) 1, al 37 (.getfield 21) 3 20 2 16 0, al 40 (.invokevirtual 34) 3 2 107 8 0, an 43 (.aload_n 0) 1, an 44 .dup 1, al 45 (.getfield 17) 3 20 2 8 0, an 48 (.iconst 1) 1, an 49 .isub 1, al 50 (.putfield 17) 3 20 2 8 0, an 53 (.aload_n 0) 1, al 54 (.getfield 17) 3 20 2 8 0, an 57 .ireturn 1]
-- 107: BluesAndGreens$State.read([II)V
def aC107 : List aN := [an 0 (.iload_n 2) 1, an 1 (.ifCond .lt 29) 3, an 4 (.iload_n 2) 1, an 5 (.iconst 1) 1, an 6 .iadd 1, an 7 (.bipush 32) 2, an 9 .imul 1, an 10 (.aload_n 1) 1, an 11 .arraylength 1, an 12 (.if_icmp .gt 18) 3, an 15 (.aload_n 1) 1, an 16 (.iload_n 2) 1, an 17 (.bipush 32) 2, an 19 .imul 1, an 20 (.aload_n 0) 1, al 21 (.getfield 11) 3 20 8 4 0, an 24 (.iconst 0) 1, an 25 (.bipush 32) 2, al 27 (.invokestatic 15) 3 11 0 0 0, an 30 .return_ 1]
-- 108: BluesAndGreens.order()I
def aC108 : List aN := [an 0 (.aload_n 0) 1, al 1 (.getfield 44) 3 20 10 36 0, al 4 (.getfield 115) 3 20 0 0 0, an 7 (.ifCond .ne 6) 3, an 10 (.bipush (-2)) 2, an 12 .ireturn 1, an 13 (.aload_n 0) 1, al 14 (.getfield 37) 3 20 10 28 0, al 17 (.invokevirtual 277) 3 2 84 4 0, an 20 (.iconst 0) 1, an 21 (.istore_n 1) 1, an 22 (.iconst 0) 1, an 23 (.istore_n 2) 1, an 24 (.iload_n 2) 1, an 25 (.aload_n 0) 1, al 26 (.getfield 44) 3 20 10 36 0, al 29 (.getfield 115) 3 20 0 0 0, an 32 (.if_icmp .ge 41) 3, an 35 (.aload_n 0) 1, al 36 (.getfield 79) 3 20 10 92 0, an 39 (.aload_n 0) 1, al 40 (.getfield 44) 3 20 10 36 0, an 43 (.aload_n 0) 1, al 44 (.getfield 51) 3 20 10 44 0, an 47 (.iload_n 1) 1, al 48 (.invokevirtual 280) 3 2 66 5 0, an 51 (.istore_n 3) 1, an 52 (.aload_n 0) 1, al 53 (.getfield 37) 3 20 10 28 0, an 56 (.iload_n 3) 1, an 57 .i2l 1, al 58 (.invokevirtual 283) 3 2 85 4 0, an 61 (.iload_n 1) 1, an 62 (.iconst 1) 1, an 63 (.iload_n 3) 1, an 64 .ishl 1, an 65 .ior 1, an 66 (.istore_n 1) 1, an 67 (.iinc 2 1) 3, an 70 (.goto (-46)) 3, an 73 (.aload_n 0) 1, al 74 (.getfield 79) 3 20 10 92 0, an 77 (.aload_n 0) 1, al 78 (.getfield 44) 3 20 10 36 0, an 81 (.aload_n 0) 1, al 82 (.getfield 51) 3 20 10 44 0, an 85 (.iconst 0) 1, al 86 (.invokevirtual 280) 3 2 66 5 0, an 89 .ireturn 1]
-- 109: BluesAndGreens.ahead(I)I
def aC109 : List aN := [an 0 (.aload_n 0) 1, al 1 (.getfield 44) 3 20 10 36 0, al 4 (.getfield 115) 3 20 0 0 0, an 7 (.ifCond .ne 6) 3, an 10 (.bipush (-2)) 2, an 12 .ireturn 1, an 13 (.iload_n 1) 1, an 14 (.ifCond .lt 9) 3, an 17 (.iload_n 1) 1, an 18 (.bipush 99) 2, an 20 (.if_icmp .le 5) 3, an 23 (.iconst (-1)) 1, an 24 .ireturn 1, an 25 (.aload_n 0) 1, al 26 (.getfield 58) 3 20 10 60 0, an 29 (.aload_n 0) 1, al 30 (.getfield 51) 3 20 10 44 0, al 33 (.invokevirtual 223) 3 2 63 8 0, an 36 (.aload_n 0) 1, al 37 (.getfield 89) 3 20 10 108 0, an 40 (.aload_n 0) 1, al 41 (.getfield 44) 3 20 10 36 0, an 44 (.aload_n 0) 1, al 45 (.getfield 58) 3 20 10 60 0, an 48 (.aload_n 0) 1, al 49 (.getfield 79) 3 20 10 92 0, an 52 (.iload_n 1) 1, al 53 (.invokevirtual 226) 3 2 64 7 0, an 56 (.istore_n 2) 1, an 57 (.aload_n 0) 1, al 58 (.getfield 37) 3 20 10 28 0, an 61 (.aload_n 0) 1, al 62 (.getfield 89) 3 20 10 108 0, al 65 (.getfield 286) 3 20 7 16 0, an 68 .i2l 1, an 69 (.aload_n 0) 1, al 70 (.getfield 89) 3 20 10 108 0, al 73 (.getfield 289) 3 20 7 24 0, an 76 .i2l 1, an 77 (.aload_n 0) 1, al 78 (.getfield 89) 3 20 10 108 0, al 81 (.getfield 236) 3 20 7 8 0, an 84 .i2l 1, al 85 (.invokevirtual 292) 3 2 110 4 0, an 88 (.iload_n 2) 1, an 89 .ireturn 1]
-- 110: BluesAndGreens$Row.tellThree(JJJ)V
def aC110 : List aN := [an 0 (.aload_n 0) 1, an 1 (.lload_n 1) 1, an 2 (.lload_n 3) 1, al 3 (.invokevirtual 29) 3 2 82 4 0, an 6 (.aload_n 0) 1, an 7 (.lload 5) 2, al 9 (.invokevirtual 22) 3 2 85 4 0, an 12 .return_ 1]
-- 111: BluesAndGreens.joins()I
def aC111 : List aN := [an 0 (.aload_n 0) 1, al 1 (.getfield 58) 3 20 10 60 0, an 4 (.aload_n 0) 1, al 5 (.getfield 51) 3 20 10 44 0, al 8 (.invokevirtual 223) 3 2 63 8 0, an 11 (.iconst 0) 1, an 12 (.istore_n 1) 1, an 13 (.iload_n 1) 1, an 14 (.bipush 99) 2, an 16 (.if_icmp .gt 72) 3, an 19 (.aload_n 0) 1, al 20 (.getfield 58) 3 20 10 60 0, an 23 (.aload_n 0) 1, al 24 (.getfield 44) 3 20 10 36 0, al 27 (.invokevirtual 269) 3 2 78 8 0, an 30 (.ifCond .eq 30) 3, an 33 (.aload_n 0) 1, al 34 (.getfield 37) 3 20 10 28 0, an 37 (.aload_n 0) 1, al 38 (.getfield 58) 3 20 10 60 0, an 41 (.iconst 0) 1, al 42 (.invokevirtual 192) 3 2 73 8 0, an 45 .i2l 1, an 46 (.aload_n 0) 1, al 47 (.getfield 58) 3 20 10 60 0, an 50 (.iconst 1) 1, al 51 (.invokevirtual 192) 3 2 73 8 0, an 54 .i2l 1, al 55 (.invokevirtual 239) 3 2 82 4 0, an 58 (.iload_n 1) 1, an 59 .ireturn 1, an 60 (.aload_n 0) 1, al 61 (.getfield 58) 3 20 10 60 0, an 64 (.aload_n 0) 1, al 65 (.getfield 44) 3 20 10 36 0, an 68 (.aload_n 0) 1, al 69 (.getfield 79) 3 20 10 92 0, al 72 (.invokevirtual 296) 3 2 65 8 0, an 75 (.iconst (-1)) 1, an 76 (.if_icmp .ne 6) 3, an 79 (.goto 9) 3, an 82 (.iinc 1 1) 3, an 85 (.goto (-72)) 3, an 88 (.bipush (-2)) 2, an 90 .ireturn 1]
-- 112: BluesAndGreens.bribe(I)I
def aC112 : List aN := [an 0 (.iload_n 1) 1, al 1 (.invokestatic 186) 3 1 75 0 0, an 4 (.ifCond .ne 5) 3, an 7 (.iconst (-1)) 1, an 8 .ireturn 1, an 9 (.aload_n 0) 1, an 10 (.aload_n 0) 1, al 11 (.getfield 51) 3 20 10 44 0, an 14 (.iload_n 1) 1, al 15 (.invokevirtual 300) 3 2 113 10 0, an 18 (.ifCond .eq 15) 3, an 21 (.aload_n 0) 1, al 22 (.getfield 37) 3 20 10 28 0, al 25 (.ldc2_w 304) 3 16 0 0 (-1), al 28 (.invokevirtual 306) 3 2 83 4 0, an 31 (.iconst 0) 1, an 32 .ireturn 1, an 33 (.iconst (-1)) 1, an 34 (.istore_n 2) 1, an 35 (.iconst 0) 1, an 36 (.istore_n 3) 1, an 37 (.iload_n 3) 1, an 38 (.aload_n 0) 1, al 39 (.getfield 44) 3 20 10 36 0, al 42 (.getfield 115) 3 20 0 0 0, an 45 (.if_icmp .ge 88) 3, an 48 (.aload_n 0) 1, al 49 (.getfield 58) 3 20 10 60 0, an 52 (.aload_n 0) 1, al 53 (.getfield 51) 3 20 10 44 0, al 56 (.invokevirtual 223) 3 2 63 8 0, an 59 (.iload_n 2) 1, an 60 (.iconst (-1)) 1, an 61 (.if_icmp .eq 24) 3, an 64 (.aload_n 0) 1, al 65 (.getfield 44) 3 20 10 36 0, al 68 (.getfield 149) 3 20 0 20 0, an 71 (.iload_n 3) 1, an 72 .iaload 1, an 73 (.aload_n 0) 1, al 74 (.getfield 44) 3 20 10 36 0, al 77 (.getfield 149) 3 20 0 20 0, an 80 (.iload_n 2) 1, an 81 .iaload 1, an 82 (.if_icmp .ge 7) 3, an 85 (.iconst 1) 1, an 86 (.goto 4) 3, an 89 (.iconst 0) 1, an 90 (.istore 4) 2, an 92 (.iload 4) 2, an 94 (.ifCond .eq 33) 3, an 97 (.aload_n 0) 1, al 98 (.getfield 58) 3 20 10 60 0, an 101 (.aload_n 0) 1, al 102 (.getfield 44) 3 20 10 36 0, an 105 (.iload_n 1) 1, an 106 (.iload_n 3) 1, al 107 (.invokevirtual 243) 3 2 87 8 0, an 110 (.ifCond .lt 17) 3, an 113 (.aload_n 0) 1, an 114 (.aload_n 0) 1, al 115 (.getfield 58) 3 20 10 60 0, an 118 (.iload_n 1) 1, al 119 (.invokevirtual 300) 3 2 113 10 0, an 122 (.ifCond .eq 5) 3, an 125 (.iload_n 3) 1, an 126 (.istore_n 2) 1, an 127 (.iinc 3 1) 3, an 130 (.goto (-93)) 3, an 133 (.iload_n 2) 1, an 134 (.iconst (-1)) 1, an 135 (.if_icmp .ne 6) 3, an 138 (.bipush (-2)) 2, an 140 .ireturn 1, an 141 (.aload_n 0) 1, al 142 (.getfield 37) 3 20 10 28 0, an 145 (.iload_n 2) 1, an 146 .i2l 1, al 147 (.invokevirtual 306) 3 2 83 4 0, an 150 (.aload_n 0) 1, al 151 (.getfield 44) 3 20 10 36 0, al 154 (.getfield 149) 3 20 0 20 0, an 157 (.iload_n 2) 1, an 158 .iaload 1, an 159 .ireturn 1]
-- 113: BluesAndGreens.wins(LBluesAndGreens$State;I)Z
def aC113 : List aN := [an 0 (.aload_n 0) 1, al 1 (.getfield 79) 3 20 10 92 0, an 4 (.aload_n 0) 1, al 5 (.getfield 44) 3 20 10 36 0, an 8 (.aload_n 1) 1, an 9 (.iconst 0) 1, al 10 (.invokevirtual 280) 3 2 66 5 0, an 13 (.istore_n 3) 1, an 14 (.iload_n 3) 1, an 15 (.iconst (-1)) 1, an 16 (.if_icmp .eq 16) 3, an 19 (.aload_n 1) 1, an 20 (.iload_n 3) 1, al 21 (.invokevirtual 152) 3 2 68 8 0, an 24 (.iload_n 2) 1, an 25 (.if_icmp .ne 7) 3, an 28 (.iconst 1) 1, an 29 (.goto 4) 3, an 32 (.iconst 0) 1, an 33 .ireturn 1]
-- 114: BluesAndGreens.lead(I)I
def aC114 : List aN := [an 0 (.iload_n 1) 1, al 1 (.invokestatic 186) 3 1 75 0 0, an 4 (.ifCond .ne 5) 3, an 7 (.iconst (-1)) 1, an 8 .ireturn 1, an 9 (.iconst (-1)) 1, an 10 (.istore_n 2) 1, an 11 (.bipush 9) 2, an 13 (.istore_n 3) 1, an 14 (.iconst 0) 1, an 15 (.istore 4) 2, an 17 (.iload 4) 2, an 19 (.sipush 256) 3, an 22 (.if_icmp .ge 50) 3, an 25 (.iload 4) 2, al 27 (.invokestatic 309) 3 1 12 0 0, an 30 (.istore 5) 2, an 32 (.iload 5) 2, an 34 (.iload_n 3) 1, an 35 (.if_icmp .ge 31) 3, an 38 (.aload_n 0) 1, an 39 (.iload_n 1) 1, an 40 (.iload 4) 2, al 42 (.invokevirtual 314) 3 2 115 10 0, an 45 (.ifCond .eq 21) 3, an 48 (.aload_n 0) 1, an 49 (.aload_n 0) 1, al 50 (.getfield 58) 3 20 10 60 0, an 53 (.iload_n 1) 1, al 54 (.invokevirtual 300) 3 2 113 10 0, an 57 (.ifCond .eq 9) 3, an 60 (.iload 4) 2, an 62 (.istore_n 2) 1, an 63 (.iload 5) 2, an 65 (.istore_n 3) 1, an 66 (.iinc 4 1) 3, an 69 (.goto (-52)) 3, an 72 (.iload_n 2) 1, an 73 (.iconst (-1)) 1, an 74 (.if_icmp .ne 6) 3, an 77 (.bipush (-2)) 2, an 79 .ireturn 1, an 80 (.aload_n 0) 1, al 81 (.getfield 37) 3 20 10 28 0, an 84 (.iload_n 2) 1, an 85 .i2l 1, al 86 (.invokevirtual 306) 3 2 83 4 0, an 89 (.iload_n 3) 1, an 90 .ireturn 1]
-- 115: BluesAndGreens.hexAll(II)Z
def aC115 : List aN := [an 0 (.aload_n 0) 1, al 1 (.getfield 58) 3 20 10 60 0, an 4 (.aload_n 0) 1, al 5 (.getfield 51) 3 20 10 44 0, al 8 (.invokevirtual 223) 3 2 63 8 0, an 11 (.iconst 0) 1, an 12 (.istore_n 3) 1, an 13 (.iload_n 3) 1, an 14 (.bipush 8) 2, an 16 (.if_icmp .ge 35) 3, an 19 (.iload_n 2) 1, an 20 (.iload_n 3) 1, al 21 (.invokestatic 318) 3 1 93 0 0, an 24 (.ifCond .eq 21) 3, an 27 (.aload_n 0) 1, al 28 (.getfield 58) 3 20 10 60 0, an 31 (.aload_n 0) 1, al 32 (.getfield 44) 3 20 10 36 0, an 35 (.iload_n 1) 1, an 36 (.iload_n 3) 1, al 37 (.invokevirtual 250) 3 2 91 8 0, an 40 (.ifCond .ge 5) 3, an 43 (.iconst 0) 1, an 44 .ireturn 1, an 45 (.iinc 3 1) 3, an 48 (.goto (-35)) 3, an 51 (.iconst 1) 1, an 52 .ireturn 1]
-- 116: BluesAndGreens.stable(I)I
def aC116 : List aN := [an 0 (.iload_n 1) 1, al 1 (.invokestatic 186) 3 1 75 0 0, an 4 (.ifCond .ne 5) 3, an 7 (.iconst (-1)) 1, an 8 .ireturn 1, an 9 (.aload_n 0) 1, al 10 (.getfield 51) 3 20 10 44 0, an 13 (.aload_n 0) 1, al 14 (.getfield 44) 3 20 10 36 0, an 17 (.iconst 1) 1, an 18 (.iload_n 1) 1, an 19 .isub 1, al 20 (.invokevirtual 198) 3 2 117 8 0, an 23 (.istore_n 2) 1, an 24 (.iconst 0) 1, an 25 (.istore_n 3) 1, an 26 (.iconst 0) 1, an 27 (.istore 4) 2, an 29 (.iconst 0) 1, an 30 (.istore 5) 2, an 32 (.iconst 1) 1, an 33 (.istore 6) 2, an 35 (.iload 6) 2, an 37 (.sipush 256) 3, an 40 (.if_icmp .ge 100) 3, an 43 (.iload 6) 2, an 45 (.iload_n 2) 1, an 46 (.iconst (-1)) 1, an 47 .ixor 1, an 48 .iand 1, an 49 (.ifCond .eq 6) 3, an 52 (.goto 82) 3, an 55 (.aload_n 0) 1, al 56 (.getfield 44) 3 20 10 36 0, an 59 (.iload 6) 2, al 61 (.invokevirtual 321) 3 2 118 0 0, an 64 (.istore 7) 2, an 66 (.aload_n 0) 1, al 67 (.getfield 44) 3 20 10 36 0, an 70 (.iload 6) 2, al 72 (.invokevirtual 324) 3 2 120 0 0, an 75 (.istore 8) 2, an 77 (.iload 7) 2, an 79 (.iload 4) 2, an 81 (.if_icmp .gt 17) 3, an 84 (.iload 7) 2, an 86 (.iload 4) 2, an 88 (.if_icmp .ne 14) 3, an 91 (.iload 8) 2, an 93 (.iload 5) 2, an 95 (.if_icmp .ge 7) 3, an 98 (.iconst 1) 1, an 99 (.goto 4) 3, an 102 (.iconst 0) 1, an 103 (.istore 9) 2, an 105 (.iload 9) 2, an 107 (.ifCond .eq 27) 3, an 110 (.iload 8) 2, an 112 (.aload_n 0) 1, al 113 (.getfield 51) 3 20 10 44 0, an 116 (.iload_n 1) 1, al 117 (.invokevirtual 189) 3 2 72 8 0, an 120 (.if_icmp .gt 14) 3, an 123 (.iload 6) 2, an 125 (.istore_n 3) 1, an 126 (.iload 7) 2, an 128 (.istore 4) 2, an 130 (.iload 8) 2, an 132 (.istore 5) 2, an 134 (.iinc 6 1) 3, an 137 (.goto (-102)) 3, an 140 (.aload_n 0) 1, al 141 (.getfield 37) 3 20 10 28 0, an 144 (.iload_n 3) 1, an 145 .i2l 1, an 146 (.iload 5) 2, an 148 .i2l 1, al 149 (.invokevirtual 239) 3 2 82 4 0, an 152 (.iload 4) 2, an 154 .ireturn 1]
-- 117: BluesAndGreens$State.driversOf(LBluesAndGreens$City;I)I
def aC117 : List aN := [an 0 (.iconst 0) 1, an 1 (.istore_n 3) 1, an 2 (.iconst 0) 1, an 3 (.istore 4) 2, an 5 (.iload 4) 2, an 7 (.aload_n 1) 1, al 8 (.getfield 21) 3 20 0 0 0, an 11 (.if_icmp .ge 26) 3, an 14 (.aload_n 0) 1, an 15 (.iload 4) 2, al 17 (.invokevirtual 34) 3 2 68 8 0, an 20 (.iload_n 2) 1, an 21 (.if_icmp .ne 10) 3, an 24 (.iload_n 3) 1, an 25 (.iconst 1) 1, an 26 (.iload 4) 2, an 28 .ishl 1, an 29 .ior 1, an 30 (.istore_n 3) 1, an 31 (.iinc 4 1) 3, an 34 (.goto (-29)) 3, an 37 (.iload_n 3) 1, an 38 .ireturn 1]
-- 118: BluesAndGreens$City.skillsOf(I)I
def aC118 : List aN := [an 0 (.aload_n 0) 1, al 1 (.getfield 9) 3 20 0 12 0, an 4 (.aload_n 0) 1, al 5 (.getfield 40) 3 20 0 0 0, an 8 (.iload_n 1) 1, al 9 (.invokestatic 46) 3 1 119 0 0, an 12 .ireturn 1]
-- 119: BluesAndGreens$City.sumOf([III)I
def aC119 : List aN := [an 0 (.iconst 0) 1, an 1 (.istore_n 3) 1, an 2 (.iconst 0) 1, an 3 (.istore 4) 2, an 5 (.iload 4) 2, an 7 (.iload_n 1) 1, an 8 (.if_icmp .ge 32) 3, an 11 (.iload 4) 2, an 13 (.aload_n 0) 1, an 14 .arraylength 1, an 15 (.if_icmp .ge 25) 3, an 18 (.iload_n 2) 1, an 19 (.iload 4) 2, al 21 (.invokestatic 53) 3 4 93 0 0, an 24 (.ifCond .eq 10) 3, an 27 (.iload_n 3) 1, an 28 (.aload_n 0) 1, an 29 (.iload 4) 2, an 31 .iaload 1, an 32 .iadd 1, an 33 (.istore_n 3) 1, an 34 (.iinc 4 1) 3, an 37 (.goto (-32)) 3, an 40 (.iload_n 3) 1, an 41 .ireturn 1]
-- 120: BluesAndGreens$City.pricesOf(I)I
def aC120 : List aN := [an 0 (.aload_n 0) 1, al 1 (.getfield 15) 3 20 0 20 0, an 4 (.aload_n 0) 1, al 5 (.getfield 40) 3 20 0 0 0, an 8 (.iload_n 1) 1, al 9 (.invokestatic 46) 3 1 119 0 0, an 12 .ireturn 1]
-- 121: BluesAndGreens.apart()I
def aC121 : List aN := [an 0 (.aload_n 0) 1, al 1 (.getfield 51) 3 20 10 44 0, an 4 (.aload_n 0) 1, al 5 (.getfield 44) 3 20 10 36 0, al 8 (.invokevirtual 327) 3 2 122 8 0, an 11 (.istore_n 1) 1, an 12 (.iconst 0) 1, an 13 (.istore_n 2) 1, an 14 (.iload_n 2) 1, an 15 (.sipush 256) 3, an 18 (.if_icmp .ge 52) 3, an 21 (.iload_n 2) 1, an 22 (.iload_n 1) 1, an 23 (.iconst (-1)) 1, an 24 .ixor 1, an 25 .iand 1, an 26 (.ifCond .ne 38) 3, an 29 (.aload_n 0) 1, an 30 (.iload_n 2) 1, al 31 (.invokevirtual 331) 3 2 123 10 0, an 34 (.ifCond .ne 30) 3, an 37 (.aload_n 0) 1, al 38 (.getfield 37) 3 20 10 28 0, an 41 (.aload_n 0) 1, al 42 (.getfield 58) 3 20 10 60 0, an 45 (.iconst 0) 1, al 46 (.invokevirtual 192) 3 2 73 8 0, an 49 .i2l 1, an 50 (.aload_n 0) 1, al 51 (.getfield 58) 3 20 10 60 0, an 54 (.iconst 1) 1, al 55 (.invokevirtual 192) 3 2 73 8 0, an 58 .i2l 1, al 59 (.invokevirtual 239) 3 2 82 4 0, an 62 (.iload_n 2) 1, an 63 .ireturn 1, an 64 (.iinc 2 1) 3, an 67 (.goto (-53)) 3, an 70 (.bipush (-2)) 2, an 72 .ireturn 1]
-- 122: BluesAndGreens$State.openQuarrels(LBluesAndGreens$City;)I
def aC122 : List aN := [an 0 (.iconst 0) 1, an 1 (.istore_n 2) 1, an 2 (.iconst 0) 1, an 3 (.istore_n 3) 1, an 4 (.iload_n 3) 1, an 5 (.aload_n 1) 1, al 6 (.getfield 38) 3 20 0 72 0, an 9 (.if_icmp .ge 24) 3, an 12 (.aload_n 0) 1, an 13 (.iload_n 3) 1, al 14 (.invokevirtual 41) 3 2 101 8 0, an 17 (.iconst (-1)) 1, an 18 (.if_icmp .ne 9) 3, an 21 (.iload_n 2) 1, an 22 (.iconst 1) 1, an 23 (.iload_n 3) 1, an 24 .ishl 1, an 25 .ior 1, an 26 (.istore_n 2) 1, an 27 (.iinc 3 1) 3, an 30 (.goto (-26)) 3, an 33 (.iload_n 2) 1, an 34 .ireturn 1]
-- 123: BluesAndGreens.joinBySides(I)Z
def aC123 : List aN := [an 0 (.aload_n 0) 1, al 1 (.getfield 58) 3 20 10 60 0, an 4 (.aload_n 0) 1, al 5 (.getfield 51) 3 20 10 44 0, al 8 (.invokevirtual 223) 3 2 63 8 0, an 11 (.iconst 0) 1, an 12 (.istore_n 2) 1, an 13 (.iconst 0) 1, an 14 (.istore_n 3) 1, an 15 (.iload_n 3) 1, an 16 (.aload_n 0) 1, al 17 (.getfield 44) 3 20 10 36 0, al 20 (.getfield 133) 3 20 0 72 0, an 23 (.if_icmp .ge 32) 3, an 26 (.aload_n 0) 1, al 27 (.getfield 58) 3 20 10 60 0, an 30 (.aload_n 0) 1, al 31 (.getfield 44) 3 20 10 36 0, an 34 (.iload_n 3) 1, an 35 (.iload_n 1) 1, an 36 (.iload_n 3) 1, an 37 .ishr 1, an 38 (.iconst 1) 1, an 39 .iand 1, al 40 (.invokevirtual 259) 3 2 99 8 0, an 43 (.iconst 1) 1, an 44 (.if_icmp .ne 5) 3, an 47 (.iconst 1) 1, an 48 (.istore_n 2) 1, an 49 (.iinc 3 1) 3, an 52 (.goto (-37)) 3, an 55 (.iload_n 2) 1, an 56 .ireturn 1]
-- 124: BluesAndGreens.calm()I
def aC124 : List aN := [an 0 (.aload_n 0) 1, al 1 (.getfield 51) 3 20 10 44 0, an 4 (.aload_n 0) 1, al 5 (.getfield 44) 3 20 10 36 0, al 8 (.invokevirtual 327) 3 2 122 8 0, an 11 (.istore_n 1) 1, an 12 (.iconst (-1)) 1, an 13 (.istore_n 2) 1, an 14 (.iconst 0) 1, an 15 (.istore_n 3) 1, an 16 (.iconst 0) 1, an 17 (.istore 4) 2, an 19 (.iconst 0) 1, an 20 (.istore 5) 2, an 22 (.iload 5) 2, an 24 (.sipush 256) 3, an 27 (.if_icmp .ge 80) 3, an 30 (.iload 5) 2, an 32 (.iload_n 1) 1, an 33 (.iconst (-1)) 1, an 34 .ixor 1, an 35 .iand 1, an 36 (.ifCond .eq 6) 3, an 39 (.goto 62) 3, an 42 (.aload_n 0) 1, an 43 (.iload 5) 2, al 45 (.invokevirtual 331) 3 2 123 10 0, an 48 .pop 1, an 49 (.aload_n 0) 1, al 50 (.getfield 58) 3 20 10 60 0, al 53 (.invokevirtual 334) 3 2 79 8 0, an 56 (.istore 6) 2, an 58 (.aload_n 0) 1, al 59 (.getfield 58) 3 20 10 60 0, al 62 (.invokevirtual 338) 3 2 125 8 0, an 65 (.istore 7) 2, an 67 (.iload_n 2) 1, an 68 (.iconst (-1)) 1, an 69 (.if_icmp .eq 22) 3, an 72 (.iload 6) 2, an 74 (.iload_n 3) 1, an 75 (.if_icmp .lt 16) 3, an 78 (.iload 6) 2, an 80 (.iload_n 3) 1, an 81 (.if_icmp .ne 20) 3, an 84 (.iload 7) 2, an 86 (.iload 4) 2, an 88 (.if_icmp .ge 13) 3, an 91 (.iload 5) 2, an 93 (.istore_n 2) 1, an 94 (.iload 6) 2, an 96 (.istore_n 3) 1, an 97 (.iload 7) 2, an 99 (.istore 4) 2, an 101 (.iinc 5 1) 3, an 104 (.goto (-82)) 3, an 107 (.aload_n 0) 1, al 108 (.getfield 37) 3 20 10 28 0, an 111 (.iload_n 3) 1, an 112 .i2l 1, an 113 (.iload 4) 2, an 115 .i2l 1, al 116 (.invokevirtual 239) 3 2 82 4 0, an 119 (.iload_n 2) 1, an 120 .ireturn 1]
-- 125: BluesAndGreens$State.greaterAnger()I
def aC125 : List aN := [an 0 (.aload_n 0) 1, al 1 (.getfield 11) 3 20 8 4 0, an 4 (.iconst 2) 1, an 5 .iaload 1, an 6 (.aload_n 0) 1, al 7 (.getfield 11) 3 20 8 4 0, an 10 (.iconst 3) 1, an 11 .iaload 1, al 12 (.invokestatic 50) 3 17 0 0 0, an 15 .ireturn 1]
-- 126: BluesAndGreens.risky()I
def aC126 : List aN := [an 0 (.aload_n 0) 1, al 1 (.getfield 51) 3 20 10 44 0, an 4 (.aload_n 0) 1, al 5 (.getfield 44) 3 20 10 36 0, al 8 (.invokevirtual 327) 3 2 122 8 0, an 11 (.istore_n 1) 1, an 12 (.iconst 0) 1, an 13 (.istore_n 2) 1, an 14 (.iconst 0) 1, an 15 (.istore_n 3) 1, an 16 (.iload_n 3) 1, an 17 (.sipush 256) 3, an 20 (.if_icmp .ge 28) 3, an 23 (.iload_n 3) 1, an 24 (.iload_n 1) 1, an 25 (.iconst (-1)) 1, an 26 .ixor 1, an 27 .iand 1, an 28 (.ifCond .ne 14) 3, an 31 (.aload_n 0) 1, an 32 (.iload_n 3) 1, al 33 (.invokevirtual 331) 3 2 123 10 0, an 36 (.ifCond .eq 6) 3, an 39 (.iinc 2 1) 3, an 42 (.iinc 3 1) 3, an 45 (.goto (-29)) 3, an 48 (.aload_n 0) 1, al 49 (.getfield 37) 3 20 10 28 0, an 52 (.iload_n 1) 1, an 53 .i2l 1, al 54 (.invokevirtual 306) 3 2 83 4 0, an 57 (.iload_n 2) 1, an 58 .ireturn 1]
-- 127: BluesAndGreens.worst()I
def aC127 : List aN := [an 0 (.aload_n 0) 1, al 1 (.getfield 51) 3 20 10 44 0, an 4 (.aload_n 0) 1, al 5 (.getfield 44) 3 20 10 36 0, al 8 (.invokevirtual 327) 3 2 122 8 0, an 11 (.istore_n 1) 1, an 12 (.iconst (-1)) 1, an 13 (.istore_n 2) 1, an 14 (.iconst 0) 1, an 15 (.istore_n 3) 1, an 16 (.iconst 0) 1, an 17 (.istore 4) 2, an 19 (.iconst 0) 1, an 20 (.istore 5) 2, an 22 (.iload 5) 2, an 24 (.aload_n 0) 1, al 25 (.getfield 44) 3 20 10 36 0, al 28 (.getfield 133) 3 20 0 72 0, an 31 (.if_icmp .ge 64) 3, an 34 (.iconst 0) 1, an 35 (.istore 6) 2, an 37 (.iload 6) 2, an 39 (.iconst 2) 1, an 40 (.if_icmp .ge 49) 3, an 43 (.iload_n 1) 1, an 44 (.iload 5) 2, al 46 (.invokestatic 318) 3 1 93 0 0, an 49 (.ifCond .eq 40) 3, an 52 (.aload_n 0) 1, an 53 (.iload 5) 2, an 55 (.iload 6) 2, al 57 (.invokevirtual 341) 3 2 128 10 0, an 60 (.istore 7) 2, an 62 (.iload_n 2) 1, an 63 (.iconst (-1)) 1, an 64 (.if_icmp .eq 9) 3, an 67 (.iload 7) 2, an 69 (.iload_n 3) 1, an 70 (.if_icmp .le 13) 3, an 73 (.iload 5) 2, an 75 (.istore_n 2) 1, an 76 (.iload 7) 2, an 78 (.istore_n 3) 1, an 79 (.iload 6) 2, an 81 (.istore 4) 2, an 83 (.iinc 6 1) 3, an 86 (.goto (-49)) 3, an 89 (.iinc 5 1) 3, an 92 (.goto (-70)) 3, an 95 (.iload_n 2) 1, an 96 (.iconst (-1)) 1, an 97 (.if_icmp .ne 6) 3, an 100 (.bipush (-2)) 2, an 102 .ireturn 1, an 103 (.aload_n 0) 1, al 104 (.getfield 37) 3 20 10 28 0, an 107 (.iload_n 3) 1, an 108 .i2l 1, an 109 (.iload 4) 2, an 111 .i2l 1, al 112 (.invokevirtual 239) 3 2 82 4 0, an 115 (.iload_n 2) 1, an 116 .ireturn 1]
-- 128: BluesAndGreens.addedBy(II)I
def aC128 : List aN := [an 0 (.aload_n 0) 1, al 1 (.getfield 58) 3 20 10 60 0, an 4 (.aload_n 0) 1, al 5 (.getfield 51) 3 20 10 44 0, al 8 (.invokevirtual 223) 3 2 63 8 0, an 11 (.aload_n 0) 1, al 12 (.getfield 58) 3 20 10 60 0, an 15 (.aload_n 0) 1, al 16 (.getfield 44) 3 20 10 36 0, an 19 (.iload_n 1) 1, an 20 (.iload_n 2) 1, al 21 (.invokevirtual 259) 3 2 99 8 0, an 24 .pop 1, an 25 (.aload_n 0) 1, al 26 (.getfield 58) 3 20 10 60 0, al 29 (.invokevirtual 334) 3 2 79 8 0, an 32 (.aload_n 0) 1, al 33 (.getfield 51) 3 20 10 44 0, al 36 (.invokevirtual 334) 3 2 79 8 0, an 39 .isub 1, an 40 .ireturn 1]
-- 129: BluesAndGreens.riots(I)I
def aC129 : List aN := [an 0 (.aload_n 0) 1, al 1 (.getfield 44) 3 20 10 36 0, an 4 (.iload_n 1) 1, al 5 (.invokevirtual 344) 3 2 130 0 0, an 8 (.ifCond .ne 5) 3, an 11 (.iconst (-1)) 1, an 12 .ireturn 1, an 13 (.aload_n 0) 1, al 14 (.getfield 44) 3 20 10 36 0, an 17 (.iload_n 1) 1, an 18 (.iconst 0) 1, al 19 (.invokevirtual 347) 3 2 133 0 0, an 22 (.istore_n 2) 1, an 23 (.aload_n 0) 1, al 24 (.getfield 37) 3 20 10 28 0, an 27 (.iload_n 2) 1, al 28 (.invokestatic 309) 3 1 12 0 0, an 31 .i2l 1, an 32 (.aload_n 0) 1, al 33 (.getfield 44) 3 20 10 36 0, an 36 (.iload_n 2) 1, al 37 (.invokevirtual 205) 3 2 135 0 0, an 40 .i2l 1, al 41 (.invokevirtual 239) 3 2 82 4 0, an 44 (.iload_n 2) 1, an 45 .ireturn 1]
-- 130: BluesAndGreens$City.areQuarters(I)Z
def aC130 : List aN := [an 0 (.iload_n 1) 1, an 1 (.aload_n 0) 1, al 2 (.invokevirtual 61) 3 2 131 0 0, an 5 (.iconst (-1)) 1, an 6 .ixor 1, an 7 .iand 1, an 8 (.ifCond .ne 7) 3, an 11 (.iconst 1) 1, an 12 (.goto 4) 3, an 15 (.iconst 0) 1, an 16 .ireturn 1]
-- 131: BluesAndGreens$City.allQuarters()I
def aC131 : List aN := [an 0 (.aload_n 0) 1, al 1 (.getfield 50) 3 20 0 32 0, al 4 (.invokestatic 57) 3 4 132 0 0, an 7 .ireturn 1]
-- 132: BluesAndGreens.firstOnes(I)I
def aC132 : List aN := [an 0 (.iconst 1) 1, an 1 (.iload_n 0) 1, an 2 .ishl 1, an 3 (.iconst 1) 1, an 4 .isub 1, an 5 .ireturn 1]
-- 133: BluesAndGreens$City.spread(II)I
def aC133 : List aN := [an 0 (.iload_n 1) 1, an 1 (.iload_n 2) 1, an 2 (.iconst (-1)) 1, an 3 .ixor 1, an 4 .iand 1, an 5 (.istore_n 3) 1, an 6 (.iconst 0) 1, an 7 (.istore 4) 2, an 9 (.iload 4) 2, an 11 (.bipush 8) 2, an 13 (.if_icmp .gt 37) 3, an 16 (.iload_n 3) 1, an 17 (.aload_n 0) 1, an 18 (.iload_n 3) 1, al 19 (.invokestatic 65) 3 1 12 0 0, al 22 (.invokevirtual 70) 3 2 134 0 0, an 25 (.iload_n 2) 1, an 26 (.iconst (-1)) 1, an 27 .ixor 1, an 28 .iand 1, an 29 .ior 1, an 30 (.istore 5) 2, an 32 (.iload 5) 2, an 34 (.iload_n 3) 1, an 35 (.if_icmp .ne 6) 3, an 38 (.goto 12) 3, an 41 (.iload 5) 2, an 43 (.istore_n 3) 1, an 44 (.iinc 4 1) 3, an 47 (.goto (-38)) 3, an 50 (.iload_n 3) 1, an 51 .ireturn 1]
-- 134: BluesAndGreens$City.drawnIn(I)I
def aC134 : List aN := [an 0 (.iconst 0) 1, an 1 (.istore_n 2) 1, an 2 (.iconst 0) 1, an 3 (.istore_n 3) 1, an 4 (.iload_n 3) 1, an 5 (.aload_n 0) 1, al 6 (.getfield 50) 3 20 0 32 0, an 9 (.if_icmp .ge 25) 3, an 12 (.aload_n 0) 1, al 13 (.getfield 27) 3 20 0 60 0, an 16 (.iload_n 3) 1, an 17 .iaload 1, an 18 (.iload_n 1) 1, an 19 (.if_icmp .gt 9) 3, an 22 (.iload_n 2) 1, an 23 (.iconst 1) 1, an 24 (.iload_n 3) 1, an 25 .ishl 1, an 26 .ior 1, an 27 (.istore_n 2) 1, an 28 (.iinc 3 1) 3, an 31 (.goto (-27)) 3, an 34 (.iload_n 2) 1, an 35 .ireturn 1]
-- 135: BluesAndGreens$City.crowdsOf(I)I
def aC135 : List aN := [an 0 (.aload_n 0) 1, al 1 (.getfield 21) 3 20 0 44 0, an 4 (.aload_n 0) 1, al 5 (.getfield 50) 3 20 0 32 0, an 8 (.iload_n 1) 1, al 9 (.invokestatic 46) 3 1 119 0 0, an 12 .ireturn 1]
-- 136: BluesAndGreens.spark()I
def aC136 : List aN := [an 0 (.aload_n 0) 1, al 1 (.getfield 44) 3 20 10 36 0, al 4 (.invokevirtual 350) 3 2 131 0 0, an 7 (.istore_n 1) 1, an 8 (.iload_n 1) 1, an 9 (.istore_n 2) 1, an 10 (.iconst 0) 1, an 11 (.istore_n 3) 1, an 12 (.iload_n 3) 1, an 13 (.iload_n 1) 1, an 14 (.if_icmp .ge 35) 3, an 17 (.iload_n 3) 1, al 18 (.invokestatic 309) 3 1 12 0 0, an 21 (.iload_n 2) 1, al 22 (.invokestatic 309) 3 1 12 0 0, an 25 (.if_icmp .ge 18) 3, an 28 (.aload_n 0) 1, al 29 (.getfield 44) 3 20 10 36 0, an 32 (.iload_n 3) 1, an 33 (.iconst 0) 1, al 34 (.invokevirtual 347) 3 2 133 0 0, an 37 (.iload_n 1) 1, an 38 (.if_icmp .ne 5) 3, an 41 (.iload_n 3) 1, an 42 (.istore_n 2) 1, an 43 (.iinc 3 1) 3, an 46 (.goto (-34)) 3, an 49 (.aload_n 0) 1, al 50 (.getfield 37) 3 20 10 28 0, an 53 (.iload_n 2) 1, an 54 .i2l 1, al 55 (.invokevirtual 306) 3 2 83 4 0, an 58 (.iload_n 2) 1, al 59 (.invokestatic 309) 3 1 12 0 0, an 62 .ireturn 1]
-- 137: BluesAndGreens.won(II)I
def aC137 : List aN := [an 0 (.aload_n 0) 1, al 1 (.getfield 44) 3 20 10 36 0, an 4 (.iload_n 1) 1, al 5 (.invokevirtual 344) 3 2 130 0 0, an 8 (.ifCond .eq 13) 3, an 11 (.iload_n 2) 1, an 12 (.ifCond .lt 9) 3, an 15 (.iload_n 2) 1, an 16 (.bipush 8) 2, an 18 (.if_icmp .le 5) 3, an 21 (.iconst (-1)) 1, an 22 .ireturn 1, an 23 (.aload_n 0) 1, al 24 (.getfield 44) 3 20 10 36 0, al 27 (.invokevirtual 350) 3 2 131 0 0, an 30 (.istore_n 3) 1, an 31 (.iload_n 3) 1, an 32 (.istore 4) 2, an 34 (.iconst 0) 1, an 35 (.istore 5) 2, an 37 (.iload 5) 2, an 39 (.iload_n 3) 1, an 40 (.if_icmp .ge 55) 3, an 43 (.iload 5) 2, al 45 (.invokestatic 309) 3 1 12 0 0, an 48 (.iload 4) 2, al 50 (.invokestatic 309) 3 1 12 0 0, an 53 (.if_icmp .ge 7) 3, an 56 (.iconst 1) 1, an 57 (.goto 4) 3, an 60 (.iconst 0) 1, an 61 (.istore 6) 2, an 63 (.iload 6) 2, an 65 (.ifCond .eq 24) 3, an 68 (.aload_n 0) 1, al 69 (.getfield 44) 3 20 10 36 0, an 72 (.iload_n 1) 1, an 73 (.iload 5) 2, al 75 (.invokevirtual 347) 3 2 133 0 0, al 78 (.invokestatic 309) 3 1 12 0 0, an 81 (.iload_n 2) 1, an 82 (.if_icmp .gt 7) 3, an 85 (.iload 5) 2, an 87 (.istore 4) 2, an 89 (.iinc 5 1) 3, an 92 (.goto (-55)) 3, an 95 (.aload_n 0) 1, al 96 (.getfield 37) 3 20 10 28 0, an 99 (.iload 4) 2, an 101 .i2l 1, al 102 (.invokevirtual 306) 3 2 83 4 0, an 105 (.iload 4) 2, al 107 (.invokestatic 309) 3 1 12 0 0, an 110 .ireturn 1]
-- 138: BluesAndGreens.gates(II)I
def aC138 : List aN := [an 0 (.aload_n 0) 1, al 1 (.getfield 44) 3 20 10 36 0, an 4 (.iload_n 1) 1, al 5 (.invokevirtual 344) 3 2 130 0 0, an 8 (.ifCond .eq 13) 3, an 11 (.iload_n 2) 1, an 12 (.ifCond .lt 9) 3, an 15 (.iload_n 2) 1, an 16 (.bipush 9) 2, an 18 (.if_icmp .le 5) 3, an 21 (.iconst (-1)) 1, an 22 .ireturn 1, an 23 (.iconst 0) 1, an 24 (.istore_n 3) 1, an 25 (.aload_n 0) 1, al 26 (.getfield 44) 3 20 10 36 0, an 29 (.aload_n 0) 1, al 30 (.getfield 44) 3 20 10 36 0, an 33 (.iload_n 1) 1, an 34 (.iconst 0) 1, al 35 (.invokevirtual 353) 3 2 139 0 0, al 38 (.invokevirtual 205) 3 2 135 0 0, an 41 (.istore 4) 2, an 43 (.iconst 1) 1, an 44 (.istore 5) 2, an 46 (.iload 5) 2, an 48 (.sipush 512) 3, an 51 (.if_icmp .ge 74) 3, an 54 (.iload 5) 2, al 56 (.invokestatic 309) 3 1 12 0 0, an 59 (.istore 6) 2, an 61 (.iload 6) 2, an 63 (.iload_n 2) 1, an 64 (.if_icmp .le 6) 3, an 67 (.goto 52) 3, an 70 (.aload_n 0) 1, al 71 (.getfield 44) 3 20 10 36 0, an 74 (.aload_n 0) 1, al 75 (.getfield 44) 3 20 10 36 0, an 78 (.iload_n 1) 1, an 79 (.iload 5) 2, al 81 (.invokevirtual 353) 3 2 139 0 0, al 84 (.invokevirtual 205) 3 2 135 0 0, an 87 (.istore 7) 2, an 89 (.iload 7) 2, an 91 (.iload 4) 2, an 93 (.if_icmp .gt 19) 3, an 96 (.iload 7) 2, an 98 (.iload 4) 2, an 100 (.if_icmp .ne 19) 3, an 103 (.iload 6) 2, an 105 (.iload_n 3) 1, al 106 (.invokestatic 309) 3 1 12 0 0, an 109 (.if_icmp .ge 10) 3, an 112 (.iload 5) 2, an 114 (.istore_n 3) 1, an 115 (.iload 7) 2, an 117 (.istore 4) 2, an 119 (.iinc 5 1) 3, an 122 (.goto (-76)) 3, an 125 (.aload_n 0) 1, al 126 (.getfield 37) 3 20 10 28 0, an 129 (.iload_n 3) 1, an 130 .i2l 1, an 131 (.aload_n 0) 1, al 132 (.getfield 44) 3 20 10 36 0, an 135 (.iload_n 1) 1, an 136 (.iload_n 3) 1, al 137 (.invokevirtual 353) 3 2 139 0 0, an 140 .i2l 1, al 141 (.invokevirtual 239) 3 2 82 4 0, an 144 (.iload 4) 2, an 146 .ireturn 1]
-- 139: BluesAndGreens$City.keptIn(II)I
def aC139 : List aN := [an 0 (.iconst 0) 1, an 1 (.istore_n 3) 1, an 2 (.iconst 0) 1, an 3 (.istore 4) 2, an 5 (.iload 4) 2, an 7 (.aload_n 0) 1, al 8 (.getfield 50) 3 20 0 32 0, an 11 (.if_icmp .ge 39) 3, an 14 (.iload_n 1) 1, an 15 (.iload 4) 2, al 17 (.invokestatic 53) 3 4 93 0 0, an 20 (.ifCond .eq 24) 3, an 23 (.aload_n 0) 1, al 24 (.getfield 30) 3 20 0 68 0, an 27 (.iload 4) 2, an 29 .iaload 1, an 30 (.iload_n 2) 1, an 31 (.iconst (-1)) 1, an 32 .ixor 1, an 33 .iand 1, an 34 (.ifCond .ne 10) 3, an 37 (.iload_n 3) 1, an 38 (.iconst 1) 1, an 39 (.iload 4) 2, an 41 .ishl 1, an 42 .ior 1, an 43 (.istore_n 3) 1, an 44 (.iinc 4 1) 3, an 47 (.goto (-42)) 3, an 50 (.iload_n 3) 1, an 51 .ireturn 1]
-- 140: BluesAndGreens.common(I)I
def aC140 : List aN := [an 0 (.aload_n 0) 1, al 1 (.getfield 44) 3 20 10 36 0, an 4 (.iload_n 1) 1, al 5 (.invokevirtual 344) 3 2 130 0 0, an 8 (.ifCond .ne 5) 3, an 11 (.iconst (-1)) 1, an 12 .ireturn 1, an 13 (.sipush 511) 3, an 16 (.istore_n 2) 1, an 17 (.iconst 0) 1, an 18 (.istore_n 3) 1, an 19 (.iconst 0) 1, an 20 (.istore 4) 2, an 22 (.iload 4) 2, an 24 (.aload_n 0) 1, al 25 (.getfield 44) 3 20 10 36 0, al 28 (.getfield 130) 3 20 0 32 0, an 31 (.if_icmp .ge 44) 3, an 34 (.iload_n 1) 1, an 35 (.iload 4) 2, al 37 (.invokestatic 318) 3 1 93 0 0, an 40 (.ifCond .eq 29) 3, an 43 (.iload_n 2) 1, an 44 (.aload_n 0) 1, al 45 (.getfield 44) 3 20 10 36 0, al 48 (.getfield 174) 3 20 0 68 0, an 51 (.iload 4) 2, an 53 .iaload 1, an 54 .iand 1, an 55 (.istore_n 2) 1, an 56 (.iload_n 3) 1, an 57 (.aload_n 0) 1, al 58 (.getfield 44) 3 20 10 36 0, al 61 (.getfield 174) 3 20 0 68 0, an 64 (.iload 4) 2, an 66 .iaload 1, an 67 .ior 1, an 68 (.istore_n 3) 1, an 69 (.iinc 4 1) 3, an 72 (.goto (-50)) 3, an 75 (.aload_n 0) 1, al 76 (.getfield 37) 3 20 10 28 0, an 79 (.iload_n 3) 1, an 80 .i2l 1, al 81 (.invokevirtual 306) 3 2 83 4 0, an 84 (.iload_n 2) 1, an 85 .ireturn 1]
-- 141: BluesAndGreens.lots(III)I
def aC141 : List aN := [an 0 (.iload_n 1) 1, an 1 (.iconst 1) 1, an 2 (.if_icmp .lt 29) 3, an 5 (.iload_n 1) 1, an 6 (.bipush 12) 2, an 8 (.if_icmp .gt 23) 3, an 11 (.iload_n 2) 1, an 12 (.ifCond .lt 19) 3, an 15 (.iload_n 2) 1, an 16 (.bipush 12) 2, an 18 (.if_icmp .gt 13) 3, an 21 (.iload_n 3) 1, an 22 (.ifCond .lt 9) 3, an 25 (.iload_n 3) 1, an 26 (.bipush 10) 2, an 28 (.if_icmp .le 5) 3, an 31 (.iconst (-1)) 1, an 32 .ireturn 1, an 33 (.iload_n 2) 1, an 34 (.iload_n 1) 1, an 35 (.if_icmp .le 7) 3, an 38 (.lconst 0) 1, an 39 (.goto 25) 3, an 42 (.iload_n 1) 1, an 43 (.iload_n 2) 1, al 44 (.invokestatic 356) 3 1 142 0 0, an 47 (.iload_n 3) 1, an 48 (.iload_n 2) 1, al 49 (.invokestatic 360) 3 1 143 0 0, an 52 .lmul 1, an 53 (.bipush 10) 2, an 55 (.iload_n 3) 1, an 56 .isub 1, an 57 (.iload_n 1) 1, an 58 (.iload_n 2) 1, an 59 .isub 1, al 60 (.invokestatic 360) 3 1 143 0 0, an 63 .lmul 1, an 64 (.lstore 4) 2, an 66 (.aload_n 0) 1, an 67 (.lload 4) 2, an 69 (.bipush 10) 2, an 71 (.iload_n 1) 1, al 72 (.invokestatic 360) 3 1 143 0 0, al 75 (.invokevirtual 363) 3 2 144 10 0, an 78 (.iconst 0) 1, an 79 .ireturn 1]
-- 142: BluesAndGreens.ways(II)J
def aC142 : List aN := [an 0 (.lconst 1) 1, an 1 (.lstore_n 2) 1, an 2 (.iconst 1) 1, an 3 (.istore 4) 2, an 5 (.iload 4) 2, an 7 (.iload_n 1) 1, an 8 (.if_icmp .gt 23) 3, an 11 (.lload_n 2) 1, an 12 (.iload_n 0) 1, an 13 (.iload_n 1) 1, an 14 .isub 1, an 15 (.iload 4) 2, an 17 .iadd 1, an 18 .i2l 1, an 19 .lmul 1, an 20 (.iload 4) 2, an 22 .i2l 1, an 23 .ldiv 1, an 24 (.lstore_n 2) 1, an 25 (.iinc 4 1) 3, an 28 (.goto (-23)) 3, an 31 (.lload_n 2) 1, an 32 .lreturn 1]
-- 143: BluesAndGreens.power(II)J
def aC143 : List aN := [an 0 (.lconst 1) 1, an 1 (.lstore_n 2) 1, an 2 (.iconst 0) 1, an 3 (.istore 4) 2, an 5 (.iload 4) 2, an 7 (.iload_n 1) 1, an 8 (.if_icmp .ge 14) 3, an 11 (.lload_n 2) 1, an 12 (.iload_n 0) 1, an 13 .i2l 1, an 14 .lmul 1, an 15 (.lstore_n 2) 1, an 16 (.iinc 4 1) 3, an 19 (.goto (-14)) 3, an 22 (.lload_n 2) 1, an 23 .lreturn 1]
-- 144: BluesAndGreens.tellFraction(JJ)V
def aC144 : List aN := [an 0 (.lload_n 1) 1, an 1 (.lload_n 3) 1, al 2 (.invokestatic 366) 3 1 145 0 0, an 5 (.lstore 5) 2, an 7 (.lload 5) 2, an 9 (.lconst 0) 1, an 10 .lcmp 1, an 11 (.ifCond .le 18) 3, an 14 (.aload_n 0) 1, al 15 (.getfield 37) 3 20 10 28 0, an 18 (.lload_n 1) 1, an 19 (.lload 5) 2, an 21 .ldiv 1, an 22 (.lload_n 3) 1, an 23 (.lload 5) 2, an 25 .ldiv 1, al 26 (.invokevirtual 239) 3 2 82 4 0, an 29 .return_ 1]
-- 145: BluesAndGreens.commonDivisor(JJ)J
def aC145 : List aN := [an 0 (.lload_n 0) 1, an 1 (.lstore 4) 2, an 3 (.lload_n 2) 1, an 4 (.lstore 6) 2, an 6 (.iconst 0) 1, an 7 (.istore 8) 2, an 9 (.iload 8) 2, an 11 (.sipush 200) 3, an 14 (.if_icmp .ge 31) 3, an 17 (.lload 6) 2, an 19 (.lconst 0) 1, an 20 .lcmp 1, an 21 (.ifCond .eq 24) 3, an 24 (.lload 4) 2, an 26 (.lload 6) 2, an 28 .lrem 1, an 29 (.lstore 9) 2, an 31 (.lload 6) 2, an 33 (.lstore 4) 2, an 35 (.lload 9) 2, an 37 (.lstore 6) 2, an 39 (.iinc 8 1) 3, an 42 (.goto (-33)) 3, an 45 (.lload 4) 2, an 47 .lreturn 1]
-- 146: BluesAndGreens.bent(IIII)I
def aC146 : List aN := [an 0 (.iload_n 1) 1, an 1 (.ifCond .lt 40) 3, an 4 (.iload_n 1) 1, an 5 (.bipush 10) 2, an 7 (.if_icmp .gt 34) 3, an 10 (.iload_n 2) 1, an 11 (.ifCond .lt 30) 3, an 14 (.iload_n 2) 1, an 15 (.bipush 10) 2, an 17 (.if_icmp .gt 24) 3, an 20 (.iload_n 3) 1, an 21 (.ifCond .lt 20) 3, an 24 (.iload_n 3) 1, an 25 (.bipush 10) 2, an 27 (.if_icmp .gt 14) 3, an 30 (.iload 4) 2, an 32 (.ifCond .lt 9) 3, an 35 (.iload 4) 2, an 37 (.iload_n 3) 1, an 38 (.if_icmp .le 5) 3, an 41 (.iconst (-1)) 1, an 42 .ireturn 1, an 43 (.iload_n 1) 1, an 44 .i2l 1, an 45 (.iload_n 2) 1, an 46 (.iload 4) 2, al 48 (.invokestatic 360) 3 1 143 0 0, an 51 .lmul 1, an 52 (.bipush 10) 2, an 54 (.iload_n 2) 1, an 55 .isub 1, an 56 (.iload_n 3) 1, an 57 (.iload 4) 2, an 59 .isub 1, al 60 (.invokestatic 360) 3 1 143 0 0, an 63 .lmul 1, an 64 (.lstore 5) 2, an 66 (.lload 5) 2, an 68 (.bipush 10) 2, an 70 (.iload_n 1) 1, an 71 .isub 1, an 72 .i2l 1, an 73 (.iconst 5) 1, an 74 (.iload_n 3) 1, al 75 (.invokestatic 360) 3 1 143 0 0, an 78 .lmul 1, an 79 .ladd 1, an 80 (.lstore 7) 2, an 82 (.lload 7) 2, an 84 (.lconst 0) 1, an 85 .lcmp 1, an 86 (.ifCond .ne 6) 3, an 89 (.bipush (-2)) 2, an 91 .ireturn 1, an 92 (.aload_n 0) 1, an 93 (.lload 5) 2, an 95 (.lload 7) 2, al 97 (.invokevirtual 363) 3 2 144 10 0, an 100 (.iconst 0) 1, an 101 .ireturn 1]
-- 147: BluesAndGreens.heard(II)I
def aC147 : List aN := [an 0 (.aload_n 0) 1, al 1 (.getfield 96) 3 20 10 116 0, an 4 (.iload_n 1) 1, an 5 (.iload_n 2) 1, al 6 (.invokevirtual 370) 3 2 148 1 0, an 9 .ireturn 1]
-- 148: BluesAndGreens$Heard.add(II)I
def aC148 : List aN := [an 0 (.aload_n 0) 1, al 1 (.getfield 18) 3 20 1 16 0, an 4 (.bipush 12) 2, an 6 (.if_icmp .ge 15) 3, an 9 (.iload_n 2) 1, an 10 (.ifCond .lt 11) 3, an 13 (.iload_n 2) 1, an 14 (.iload_n 1) 1, al 15 (.invokestatic 22) 3 1 149 0 0, an 18 (.if_icmp .le 5) 3, an 21 (.iconst (-1)) 1, an 22 .ireturn 1, an 23 (.aload_n 0) 1, al 24 (.getfield 11) 3 20 1 4 0, an 27 (.aload_n 0) 1, al 28 (.getfield 18) 3 20 1 16 0, an 31 (.iload_n 1) 1, an 32 .iastore 1, an 33 (.aload_n 0) 1, al 34 (.getfield 15) 3 20 1 12 0, an 37 (.aload_n 0) 1, al 38 (.getfield 18) 3 20 1 16 0, an 41 (.iload_n 2) 1, an 42 .iastore 1, an 43 (.aload_n 0) 1, an 44 .dup 1, al 45 (.getfield 18) 3 20 1 16 0, an 48 (.iconst 1) 1, an 49 .iadd 1, al 50 (.putfield 18) 3 20 1 16 0, an 53 (.aload_n 0) 1, al 54 (.getfield 18) 3 20 1 16 0, an 57 .ireturn 1]
-- 149: BluesAndGreens$Heard.mostOf(I)I
def aC149 : List aN := [an 0 (.iload_n 0) 1, an 1 (.tableswitch 46 0 4 #[35, 37, 40, 43, 43]) 35, an 36 (.iconst 1) 1, an 37 .ireturn 1, an 38 (.bipush 99) 2, an 40 .ireturn 1, an 41 (.bipush 9) 2, an 43 .ireturn 1, an 44 (.bipush 8) 2, an 46 .ireturn 1, an 47 (.iconst (-1)) 1, an 48 .ireturn 1]
-- 150: BluesAndGreens.forget()I
def aC150 : List aN := [an 0 (.aload_n 0) 1, al 1 (.getfield 96) 3 20 10 116 0, al 4 (.invokevirtual 372) 3 2 151 1 0, an 7 .ireturn 1]
-- 151: BluesAndGreens$Heard.clear()I
def aC151 : List aN := [an 0 (.aload_n 0) 1, al 1 (.getfield 18) 3 20 1 16 0, an 4 (.istore_n 1) 1, an 5 (.aload_n 0) 1, an 6 (.iconst 0) 1, al 7 (.putfield 18) 3 20 1 16 0, an 10 (.iload_n 1) 1, an 11 .ireturn 1]
-- 152: BluesAndGreens.fits()I
def aC152 : List aN := [an 0 (.aload_n 0) 1, al 1 (.getfield 96) 3 20 10 116 0, an 4 (.aload_n 0) 1, al 5 (.getfield 44) 3 20 10 36 0, al 8 (.invokevirtual 374) 3 2 153 1 0, an 11 (.istore_n 1) 1, an 12 (.aload_n 0) 1, al 13 (.getfield 37) 3 20 10 28 0, an 16 (.iload_n 1) 1, al 17 (.invokestatic 309) 3 1 12 0 0, an 20 .i2l 1, an 21 (.aload_n 0) 1, al 22 (.getfield 44) 3 20 10 36 0, an 25 (.iload_n 1) 1, al 26 (.invokevirtual 205) 3 2 135 0 0, an 29 .i2l 1, al 30 (.invokevirtual 239) 3 2 82 4 0, an 33 (.iload_n 1) 1, an 34 .ireturn 1]
-- 153: BluesAndGreens$Heard.fitting(LBluesAndGreens$City;)I
def aC153 : List aN := [an 0 (.iconst 0) 1, an 1 (.istore_n 2) 1, an 2 (.iconst 0) 1, an 3 (.istore_n 3) 1, an 4 (.iload_n 3) 1, an 5 (.aload_n 1) 1, al 6 (.getfield 26) 3 20 0 32 0, an 9 (.if_icmp .ge 24) 3, an 12 (.aload_n 0) 1, an 13 (.aload_n 1) 1, an 14 (.iload_n 3) 1, al 15 (.invokevirtual 31) 3 2 154 1 0, an 18 (.ifCond .eq 9) 3, an 21 (.iload_n 2) 1, an 22 (.iconst 1) 1, an 23 (.iload_n 3) 1, an 24 .ishl 1, an 25 .ior 1, an 26 (.istore_n 2) 1, an 27 (.iinc 3 1) 3, an 30 (.goto (-26)) 3, an 33 (.iload_n 2) 1, an 34 .ireturn 1]
-- 154: BluesAndGreens$Heard.fitsAll(LBluesAndGreens$City;I)Z
def aC154 : List aN := [an 0 (.iconst 0) 1, an 1 (.istore_n 3) 1, an 2 (.iload_n 3) 1, an 3 (.aload_n 0) 1, al 4 (.getfield 18) 3 20 1 16 0, an 7 (.if_icmp .ge 31) 3, an 10 (.aload_n 1) 1, an 11 (.iload_n 2) 1, an 12 (.aload_n 0) 1, al 13 (.getfield 11) 3 20 1 4 0, an 16 (.iload_n 3) 1, an 17 .iaload 1, an 18 (.aload_n 0) 1, al 19 (.getfield 15) 3 20 1 12 0, an 22 (.iload_n 3) 1, an 23 .iaload 1, al 24 (.invokestatic 35) 3 1 155 0 0, an 27 (.ifCond .ne 5) 3, an 30 (.iconst 0) 1, an 31 .ireturn 1, an 32 (.iinc 3 1) 3, an 35 (.goto (-33)) 3, an 38 (.iconst 1) 1, an 39 .ireturn 1]
-- 155: BluesAndGreens$Heard.fitsOne(LBluesAndGreens$City;III)Z
def aC155 : List aN := [an 0 (.iload_n 2) 1, an 1 (.tableswitch 107 0 3 #[31, 64, 80, 96]) 31, an 32 (.aload_n 0) 1, al 33 (.getfield 39) 3 20 0 52 0, an 36 (.iload_n 1) 1, an 37 .iaload 1, an 38 (.ifCond .ne 7) 3, an 41 (.iconst 1) 1, an 42 (.goto 4) 3, an 45 (.iconst 0) 1, an 46 (.iload_n 3) 1, an 47 (.iconst 1) 1, an 48 (.if_icmp .ne 7) 3, an 51 (.iconst 1) 1, an 52 (.goto 4) 3, an 55 (.iconst 0) 1, an 56 (.if_icmp .ne 7) 3, an 59 (.iconst 1) 1, an 60 (.goto 4) 3, an 63 (.iconst 0) 1, an 64 .ireturn 1, an 65 (.aload_n 0) 1, al 66 (.getfield 42) 3 20 0 44 0, an 69 (.iload_n 1) 1, an 70 .iaload 1, an 71 (.iload_n 3) 1, an 72 (.if_icmp .lt 7) 3, an 75 (.iconst 1) 1, an 76 (.goto 4) 3, an 79 (.iconst 0) 1, an 80 .ireturn 1, an 81 (.aload_n 0) 1, al 82 (.getfield 45) 3 20 0 60 0, an 85 (.iload_n 1) 1, an 86 .iaload 1, an 87 (.iload_n 3) 1, an 88 (.if_icmp .gt 7) 3, an 91 (.iconst 1) 1, an 92 (.goto 4) 3, an 95 (.iconst 0) 1, an 96 .ireturn 1, an 97 (.aload_n 0) 1, al 98 (.getfield 48) 3 20 0 68 0, an 101 (.iload_n 1) 1, an 102 .iaload 1, an 103 (.iload_n 3) 1, al 104 (.invokestatic 51) 3 4 93 0 0, an 107 .ireturn 1, an 108 (.aload_n 0) 1, al 109 (.getfield 48) 3 20 0 68 0, an 112 (.iload_n 1) 1, an 113 .iaload 1, an 114 (.iload_n 3) 1, al 115 (.invokestatic 51) 3 4 93 0 0, an 118 (.ifCond .ne 7) 3, an 121 (.iconst 1) 1, an 122 (.goto 4) 3, an 125 (.iconst 0) 1, an 126 .ireturn 1]
-- 156: BluesAndGreens.ask()I
def aC156 : List aN := [an 0 (.aload_n 0) 1, al 1 (.getfield 96) 3 20 10 116 0, an 4 (.aload_n 0) 1, al 5 (.getfield 44) 3 20 10 36 0, al 8 (.invokevirtual 374) 3 2 153 1 0, an 11 (.istore_n 1) 1, an 12 (.iload_n 1) 1, an 13 (.ifCond .ne 6) 3, an 16 (.bipush (-2)) 2, an 18 .ireturn 1, an 19 (.iconst 0) 1, an 20 (.istore_n 2) 1, an 21 (.bipush 9) 2, an 23 (.istore_n 3) 1, an 24 (.iconst 0) 1, an 25 (.istore 4) 2, an 27 (.iload 4) 2, an 29 (.bipush 9) 2, an 31 (.if_icmp .ge 51) 3, an 34 (.aload_n 0) 1, al 35 (.getfield 44) 3 20 10 36 0, an 38 (.iload 4) 2, al 40 (.invokevirtual 377) 3 2 157 0 0, an 43 (.iload_n 1) 1, an 44 .iand 1, al 45 (.invokestatic 309) 3 1 12 0 0, an 48 (.istore 5) 2, an 50 (.iload 5) 2, an 52 (.iload_n 1) 1, al 53 (.invokestatic 309) 3 1 12 0 0, an 56 (.iload 5) 2, an 58 .isub 1, al 59 (.invokestatic 220) 3 17 0 0 0, an 62 (.istore 6) 2, an 64 (.iload 6) 2, an 66 (.iload_n 3) 1, an 67 (.if_icmp .ge 9) 3, an 70 (.iload 4) 2, an 72 (.istore_n 2) 1, an 73 (.iload 6) 2, an 75 (.istore_n 3) 1, an 76 (.iinc 4 1) 3, an 79 (.goto (-52)) 3, an 82 (.aload_n 0) 1, al 83 (.getfield 37) 3 20 10 28 0, an 86 (.iload_n 3) 1, an 87 .i2l 1, al 88 (.invokevirtual 306) 3 2 83 4 0, an 91 (.iload_n 2) 1, an 92 .ireturn 1]
-- 157: BluesAndGreens$City.quartersAt(I)I
def aC157 : List aN := [an 0 (.iconst 0) 1, an 1 (.istore_n 2) 1, an 2 (.iconst 0) 1, an 3 (.istore_n 3) 1, an 4 (.iload_n 3) 1, an 5 (.aload_n 0) 1, al 6 (.getfield 50) 3 20 0 32 0, an 9 (.if_icmp .ge 28) 3, an 12 (.aload_n 0) 1, al 13 (.getfield 30) 3 20 0 68 0, an 16 (.iload_n 3) 1, an 17 .iaload 1, an 18 (.iload_n 1) 1, al 19 (.invokestatic 53) 3 4 93 0 0, an 22 (.ifCond .eq 9) 3, an 25 (.iload_n 2) 1, an 26 (.iconst 1) 1, an 27 (.iload_n 3) 1, an 28 .ishl 1, an 29 .ior 1, an 30 (.istore_n 2) 1, an 31 (.iinc 3 1) 3, an 34 (.goto (-30)) 3, an 37 (.iload_n 2) 1, an 38 .ireturn 1]
-- 158: BluesAndGreens.rests(II)I
def aC158 : List aN := [an 0 (.iload_n 1) 1, an 1 (.ifCond .lt 19) 3, an 4 (.iload_n 1) 1, an 5 (.bipush 10) 2, an 7 (.if_icmp .ge 13) 3, an 10 (.iload_n 2) 1, an 11 (.ifCond .lt 9) 3, an 14 (.iload_n 2) 1, an 15 (.bipush 10) 2, an 17 (.if_icmp .lt 5) 3, an 20 (.iconst (-1)) 1, an 21 .ireturn 1, an 22 (.aload_n 0) 1, al 23 (.getfield 37) 3 20 10 28 0, al 26 (.invokevirtual 277) 3 2 84 4 0, an 29 (.iconst 0) 1, an 30 (.istore_n 3) 1, an 31 (.iconst 0) 1, an 32 (.istore 4) 2, an 34 (.iload 4) 2, an 36 (.bipush 10) 2, an 38 (.if_icmp .ge 61) 3, an 41 (.iconst 0) 1, an 42 (.istore 5) 2, an 44 (.iload 5) 2, an 46 (.bipush 10) 2, an 48 (.if_icmp .ge 45) 3, an 51 (.iload_n 1) 1, an 52 (.iload_n 2) 1, an 53 (.iload 4) 2, an 55 (.iload 5) 2, al 57 (.invokestatic 380) 3 1 159 0 0, an 60 (.ifCond .ne 6) 3, an 63 (.goto 24) 3, an 66 (.iinc 3 1) 3, an 69 (.iload_n 3) 1, an 70 (.iconst 1) 1, an 71 (.if_icmp .ne 16) 3, an 74 (.aload_n 0) 1, al 75 (.getfield 37) 3 20 10 28 0, an 78 (.iload 4) 2, an 80 .i2l 1, an 81 (.iload 5) 2, an 83 .i2l 1, al 84 (.invokevirtual 239) 3 2 82 4 0, an 87 (.iinc 5 1) 3, an 90 (.goto (-46)) 3, an 93 (.iinc 4 1) 3, an 96 (.goto (-62)) 3, an 99 (.iload_n 3) 1, an 100 .ireturn 1]
-- 159: BluesAndGreens.areAtRest(IIII)Z
def aC159 : List aN := [an 0 (.iconst 0) 1, an 1 (.istore 4) 2, an 3 (.iload 4) 2, an 5 (.bipush 10) 2, an 7 (.if_icmp .ge 43) 3, an 10 (.iload_n 0) 1, an 11 (.iload 4) 2, an 13 (.iload_n 3) 1, al 14 (.invokestatic 384) 3 1 160 0 0, an 17 (.iload_n 0) 1, an 18 (.iload_n 2) 1, an 19 (.iload_n 3) 1, al 20 (.invokestatic 384) 3 1 160 0 0, an 23 (.if_icmp .gt 19) 3, an 26 (.iload_n 1) 1, an 27 (.iload_n 2) 1, an 28 (.iload 4) 2, al 30 (.invokestatic 388) 3 1 161 0 0, an 33 (.iload_n 1) 1, an 34 (.iload_n 2) 1, an 35 (.iload_n 3) 1, al 36 (.invokestatic 388) 3 1 161 0 0, an 39 (.if_icmp .le 5) 3, an 42 (.iconst 0) 1, an 43 .ireturn 1, an 44 (.iinc 4 1) 3, an 47 (.goto (-44)) 3, an 50 (.iconst 1) 1, an 51 .ireturn 1]
-- 160: BluesAndGreens.blueHas(III)I
def aC160 : List aN := [an 0 (.iload_n 1) 1, an 1 (.iload_n 2) 1, an 2 (.if_icmp .lt 9) 3, an 5 (.iload_n 0) 1, an 6 (.iload_n 2) 1, an 7 .isub 1, an 8 (.goto 4) 3, an 11 (.iconst 0) 1, an 12 .ireturn 1]
-- 161: BluesAndGreens.greenHas(III)I
def aC161 : List aN := [an 0 (.iload_n 2) 1, an 1 (.iload_n 1) 1, an 2 (.if_icmp .le 9) 3, an 5 (.iload_n 0) 1, an 6 (.iload_n 1) 1, an 7 .isub 1, an 8 (.goto 4) 3, an 11 (.iconst 0) 1, an 12 .ireturn 1]
-- 162: BluesAndGreens.law()I
def aC162 : List aN := [an 0 (.aload_n 0) 1, an 1 (.aload_n 0) 1, al 2 (.getfield 83) 3 20 10 100 0, al 5 (.invokevirtual 103) 3 2 24 10 0, an 8 (.istore_n 1) 1, an 9 (.iload_n 1) 1, an 10 (.ifCond .eq 9) 3, an 13 (.iload_n 1) 1, an 14 (.sipush 9999) 3, an 17 .isub 1, an 18 .ireturn 1, an 19 (.aload_n 0) 1, al 20 (.getfield 44) 3 20 10 36 0, al 23 (.getfield 115) 3 20 0 0 0, an 26 (.ifCond .ne 7) 3, an 29 (.sipush (-20000)) 3, an 32 .ireturn 1, an 33 (.aload_n 0) 1, al 34 (.getfield 58) 3 20 10 60 0, an 37 (.aload_n 0) 1, al 38 (.getfield 51) 3 20 10 44 0, al 41 (.invokevirtual 223) 3 2 63 8 0, an 44 (.aload_n 0) 1, al 45 (.getfield 89) 3 20 10 108 0, an 48 (.aload_n 0) 1, al 49 (.getfield 44) 3 20 10 36 0, an 52 (.aload_n 0) 1, al 53 (.getfield 58) 3 20 10 60 0, an 56 (.aload_n 0) 1, al 57 (.getfield 83) 3 20 10 100 0, an 60 (.bipush 20) 2, al 62 (.invokevirtual 226) 3 2 64 7 0, an 65 (.istore_n 2) 1, an 66 (.aload_n 0) 1, al 67 (.getfield 58) 3 20 10 60 0, an 70 (.aload_n 0) 1, al 71 (.getfield 51) 3 20 10 44 0, al 74 (.invokevirtual 223) 3 2 63 8 0, an 77 (.aload_n 0) 1, al 78 (.getfield 89) 3 20 10 108 0, an 81 (.aload_n 0) 1, al 82 (.getfield 44) 3 20 10 36 0, an 85 (.aload_n 0) 1, al 86 (.getfield 58) 3 20 10 60 0, an 89 (.aload_n 0) 1, al 90 (.getfield 79) 3 20 10 92 0, an 93 (.bipush 20) 2, al 95 (.invokevirtual 226) 3 2 64 7 0, an 98 (.istore_n 3) 1, an 99 (.aload_n 0) 1, al 100 (.getfield 37) 3 20 10 28 0, an 103 (.iload_n 2) 1, an 104 .i2l 1, an 105 (.iload_n 3) 1, an 106 .i2l 1, al 107 (.invokevirtual 239) 3 2 82 4 0, an 110 (.iload_n 2) 1, an 111 (.iload_n 3) 1, an 112 .isub 1, an 113 .ireturn 1]
-- 163: BluesAndGreens.years(II)I
def aC163 : List aN := [an 0 (.aload_n 0) 1, al 1 (.getfield 44) 3 20 10 36 0, al 4 (.getfield 115) 3 20 0 0 0, an 7 (.ifCond .ne 6) 3, an 10 (.bipush (-2)) 2, an 12 .ireturn 1, an 13 (.iload_n 2) 1, an 14 (.iconst 1) 1, an 15 (.if_icmp .lt 9) 3, an 18 (.iload_n 2) 1, an 19 (.bipush 60) 2, an 21 (.if_icmp .le 5) 3, an 24 (.iconst (-1)) 1, an 25 .ireturn 1, an 26 (.aload_n 0) 1, al 27 (.getfield 58) 3 20 10 60 0, an 30 (.aload_n 0) 1, al 31 (.getfield 51) 3 20 10 44 0, al 34 (.invokevirtual 223) 3 2 63 8 0, an 37 (.aload_n 0) 1, al 38 (.getfield 89) 3 20 10 108 0, an 41 (.iload_n 1) 1, al 42 (.putfield 391) 3 20 7 32 0, an 45 (.iconst 0) 1, an 46 (.istore_n 3) 1, an 47 (.iconst 0) 1, an 48 (.istore 4) 2, an 50 (.iconst 0) 1, an 51 (.istore 5) 2, an 53 (.iload 5) 2, an 55 (.iload_n 2) 1, an 56 (.if_icmp .ge 40) 3, an 59 (.iload_n 3) 1, an 60 (.aload_n 0) 1, al 61 (.invokevirtual 394) 3 2 164 10 0, an 64 .iadd 1, an 65 (.istore_n 3) 1, an 66 (.iload 4) 2, an 68 (.aload_n 0) 1, al 69 (.getfield 58) 3 20 10 60 0, an 72 (.aload_n 0) 1, al 73 (.getfield 44) 3 20 10 36 0, al 76 (.invokevirtual 269) 3 2 78 8 0, an 79 (.ifCond .eq 7) 3, an 82 (.iconst 1) 1, an 83 (.goto 4) 3, an 86 (.iconst 0) 1, an 87 .iadd 1, an 88 (.istore 4) 2, an 90 (.iinc 5 1) 3, an 93 (.goto (-40)) 3, an 96 (.aload_n 0) 1, al 97 (.getfield 37) 3 20 10 28 0, an 100 (.aload_n 0) 1, al 101 (.getfield 58) 3 20 10 60 0, an 104 (.iconst 0) 1, al 105 (.invokevirtual 189) 3 2 72 8 0, an 108 .i2l 1, an 109 (.aload_n 0) 1, al 110 (.getfield 58) 3 20 10 60 0, an 113 (.iconst 1) 1, al 114 (.invokevirtual 189) 3 2 72 8 0, an 117 .i2l 1, an 118 (.iload 4) 2, an 120 .i2l 1, al 121 (.invokevirtual 292) 3 2 110 4 0, an 124 (.iload_n 3) 1, an 125 .ireturn 1]
-- 164: BluesAndGreens.drawnYear()I
def aC164 : List aN := [an 0 (.aload_n 0) 1, al 1 (.getfield 89) 3 20 10 108 0, an 4 (.iconst 4) 1, al 5 (.invokevirtual 397) 3 2 165 7 0, an 8 (.istore_n 1) 1, an 9 (.iload_n 1) 1, an 10 (.iconst 2) 1, an 11 (.if_icmp .ge 24) 3, an 14 (.aload_n 0) 1, al 15 (.getfield 89) 3 20 10 108 0, an 18 (.aload_n 0) 1, al 19 (.getfield 44) 3 20 10 36 0, an 22 (.aload_n 0) 1, al 23 (.getfield 58) 3 20 10 60 0, an 26 (.aload_n 0) 1, al 27 (.getfield 79) 3 20 10 92 0, an 30 (.iconst 1) 1, al 31 (.invokevirtual 226) 3 2 64 7 0, an 34 .ireturn 1, an 35 (.aload_n 0) 1, al 36 (.getfield 89) 3 20 10 108 0, an 39 (.iconst 2) 1, al 40 (.invokevirtual 397) 3 2 165 7 0, an 43 (.istore_n 2) 1, an 44 (.iload_n 1) 1, an 45 (.iconst 2) 1, an 46 (.if_icmp .ne 33) 3, an 49 (.aload_n 0) 1, al 50 (.getfield 58) 3 20 10 60 0, an 53 (.aload_n 0) 1, al 54 (.getfield 44) 3 20 10 36 0, an 57 (.iload_n 2) 1, an 58 (.aload_n 0) 1, al 59 (.getfield 89) 3 20 10 108 0, an 62 (.aload_n 0) 1, al 63 (.getfield 44) 3 20 10 36 0, al 66 (.getfield 115) 3 20 0 0 0, al 69 (.invokevirtual 397) 3 2 165 7 0, al 72 (.invokevirtual 243) 3 2 87 8 0, an 75 .pop 1, an 76 (.goto 13) 3, an 79 (.aload_n 0) 1, al 80 (.getfield 58) 3 20 10 60 0, an 83 (.iload_n 2) 1, an 84 (.iconst 5) 1, al 85 (.invokevirtual 256) 3 2 97 8 0, an 88 .pop 1, an 89 (.iconst 0) 1, an 90 .ireturn 1]
-- 165: BluesAndGreens$Runs.draw(I)I
def aC165 : List aN := [an 0 (.aload_n 0) 1, an 1 (.aload_n 0) 1, al 2 (.getfield 44) 3 20 7 32 0, al 5 (.ldc 47) 2 14 0 0 1103515245, an 7 .imul 1, an 8 (.sipush 12345) 3, an 11 .iadd 1, al 12 (.putfield 44) 3 20 7 32 0, an 15 (.iload_n 1) 1, an 16 (.ifCond .le 15) 3, an 19 (.aload_n 0) 1, al 20 (.getfield 44) 3 20 7 32 0, an 23 (.bipush 16) 2, an 25 .iushr 1, an 26 (.iload_n 1) 1, an 27 .irem 1, an 28 (.goto 4) 3, an 31 (.iconst 0) 1, an 32 .ireturn 1]
-- 166: BluesAndGreens.keep(I)Z
def aC166 : List aN := [an 0 (.iload_n 1) 1, an 1 (.ifCond .lt 8) 3, an 4 (.iload_n 1) 1, an 5 (.iconst 2) 1, an 6 (.if_icmp .lt 5) 3, an 9 (.iconst 0) 1, an 10 .ireturn 1, an 11 (.aload_n 0) 1, al 12 (.getfield 51) 3 20 10 44 0, an 15 (.aload_n 0) 1, al 16 (.getfield 68) 3 20 10 76 0, an 19 (.iload_n 1) 1, al 20 (.invokevirtual 400) 3 2 81 8 0, an 23 (.aload_n 0) 1, al 24 (.getfield 72) 3 20 10 84 0, an 27 (.iload_n 1) 1, an 28 (.iconst 1) 1, an 29 .bastore 1, an 30 (.iconst 1) 1, an 31 .ireturn 1]
-- 167: BluesAndGreens.again(I)Z
def aC167 : List aN := [an 0 (.iload_n 1) 1, an 1 (.ifCond .lt 17) 3, an 4 (.iload_n 1) 1, an 5 (.iconst 2) 1, an 6 (.if_icmp .ge 12) 3, an 9 (.aload_n 0) 1, al 10 (.getfield 72) 3 20 10 84 0, an 13 (.iload_n 1) 1, an 14 .baload 1, an 15 (.ifCond .ne 5) 3, an 18 (.iconst 0) 1, an 19 .ireturn 1, an 20 (.aload_n 0) 1, al 21 (.getfield 51) 3 20 10 44 0, an 24 (.aload_n 0) 1, al 25 (.getfield 68) 3 20 10 76 0, an 28 (.iload_n 1) 1, al 29 (.invokevirtual 404) 3 2 107 8 0, an 32 (.aload_n 0) 1, al 33 (.getfield 64) 3 20 10 68 0, al 36 (.invokevirtual 407) 3 2 54 2 0, an 39 (.iconst 1) 1, an 40 .ireturn 1]
-- 168: BluesAndGreens.count(I)I
def aC168 : List aN := [an 0 (.iload_n 1) 1, an 1 (.tableswitch 188 0 11 #[63, 71, 79, 87, 95, 103, 123, 131, 156, 164, 172, 180]) 63, an 64 (.aload_n 0) 1, al 65 (.getfield 44) 3 20 10 36 0, al 68 (.getfield 115) 3 20 0 0 0, an 71 .ireturn 1, an 72 (.aload_n 0) 1, al 73 (.getfield 44) 3 20 10 36 0, al 76 (.getfield 130) 3 20 0 32 0, an 79 .ireturn 1, an 80 (.aload_n 0) 1, al 81 (.getfield 44) 3 20 10 36 0, al 84 (.getfield 133) 3 20 0 72 0, an 87 .ireturn 1, an 88 (.aload_n 0) 1, al 89 (.getfield 44) 3 20 10 36 0, al 92 (.getfield 208) 3 20 0 88 0, an 95 .ireturn 1, an 96 (.aload_n 0) 1, al 97 (.getfield 51) 3 20 10 44 0, al 100 (.invokevirtual 408) 3 2 71 8 0, an 103 .ireturn 1, an 104 (.aload_n 0) 1, al 105 (.getfield 51) 3 20 10 44 0, an 108 (.aload_n 0) 1, al 109 (.getfield 44) 3 20 10 36 0, al 112 (.invokevirtual 269) 3 2 78 8 0, an 115 (.ifCond .eq 7) 3, an 118 (.iconst 1) 1, an 119 (.goto 4) 3, an 122 (.iconst 0) 1, an 123 .ireturn 1, an 124 (.aload_n 0) 1, al 125 (.getfield 51) 3 20 10 44 0, al 128 (.invokevirtual 411) 3 2 69 8 0, an 131 .ireturn 1, an 132 (.aload_n 0) 1, al 133 (.getfield 44) 3 20 10 36 0, al 136 (.getfield 133) 3 20 0 72 0, al 139 (.invokestatic 414) 3 1 132 0 0, an 142 (.aload_n 0) 1, al 143 (.getfield 51) 3 20 10 44 0, an 146 (.aload_n 0) 1, al 147 (.getfield 44) 3 20 10 36 0, al 150 (.invokevirtual 327) 3 2 122 8 0, an 153 (.iconst (-1)) 1, an 154 .ixor 1, an 155 .iand 1, an 156 .ireturn 1, an 157 (.aload_n 0) 1, al 158 (.getfield 96) 3 20 10 116 0, al 161 (.getfield 417) 3 20 1 16 0, an 164 .ireturn 1, an 165 (.aload_n 0) 1, al 166 (.getfield 64) 3 20 10 68 0, al 169 (.getfield 420) 3 20 2 8 0, an 172 .ireturn 1, an 173 (.aload_n 0) 1, al 174 (.getfield 37) 3 20 10 28 0, al 177 (.getfield 421) 3 20 4 8 0, an 180 .ireturn 1, an 181 (.aload_n 0) 1, al 182 (.getfield 12) 3 20 10 4 0, al 185 (.getfield 422) 3 20 9 8 0, an 188 .ireturn 1, an 189 (.iconst (-1)) 1, an 190 .ireturn 1]
-- 169: BluesAndGreens.driver(II)I
def aC169 : List aN := [an 0 (.aload_n 0) 1, al 1 (.getfield 44) 3 20 10 36 0, an 4 (.iload_n 1) 1, al 5 (.invokevirtual 140) 3 2 88 0 0, an 8 (.ifCond .ne 11) 3, al 11 (.new 143) 3 13 0 0 0, an 14 .dup 1, al 15 (.invokespecial 145) 3 99 0 0 0, an 18 .athrow 1, an 19 (.iload_n 2) 1, an 20 (.tableswitch 91 0 4 #[36, 46, 56, 65, 82]) 36, an 56 (.aload_n 0) 1, al 57 (.getfield 44) 3 20 10 36 0, al 60 (.getfield 146) 3 20 0 12 0, an 63 (.iload_n 1) 1, an 64 .iaload 1, an 65 .ireturn 1, an 66 (.aload_n 0) 1, al 67 (.getfield 44) 3 20 10 36 0, al 70 (.getfield 149) 3 20 0 20 0, an 73 (.iload_n 1) 1, an 74 .iaload 1, an 75 .ireturn 1, an 76 (.aload_n 0) 1, al 77 (.getfield 51) 3 20 10 44 0, an 80 (.iload_n 1) 1, al 81 (.invokevirtual 152) 3 2 68 8 0, an 84 .ireturn 1, an 85 (.aload_n 0) 1, al 86 (.getfield 51) 3 20 10 44 0, an 89 (.iload_n 1) 1, al 90 (.invokevirtual 155) 3 2 92 8 0, an 93 (.ifCond .eq 7) 3, an 96 (.iconst 1) 1, an 97 (.goto 4) 3, an 100 (.iconst 0) 1, an 101 .ireturn 1, an 102 (.aload_n 0) 1, al 103 (.getfield 51) 3 20 10 44 0, an 106 (.iload_n 1) 1, al 107 (.invokevirtual 158) 3 2 70 8 0, an 110 .ireturn 1, al 111 (.new 143) 3 13 0 0 0, an 114 .dup 1, al 115 (.invokespecial 145) 3 99 0 0 0, an 118 .athrow 1]
-- 170: BluesAndGreens.strength(I)I
def aC170 : List aN := [an 0 (.aload_n 0) 1, al 1 (.getfield 44) 3 20 10 36 0, an 4 (.iload_n 1) 1, al 5 (.invokevirtual 140) 3 2 88 0 0, an 8 (.ifCond .ne 11) 3, al 11 (.new 143) 3 13 0 0 0, an 14 .dup 1, al 15 (.invokespecial 145) 3 99 0 0 0, an 18 .athrow 1, an 19 (.aload_n 0) 1, al 20 (.getfield 79) 3 20 10 92 0, an 23 (.aload_n 0) 1, al 24 (.getfield 44) 3 20 10 36 0, an 27 (.aload_n 0) 1, al 28 (.getfield 51) 3 20 10 44 0, an 31 (.iload_n 1) 1, al 32 (.invokevirtual 161) 3 2 67 5 0, an 35 .ireturn 1]
-- 171: BluesAndGreens.quarter(II)I
def aC171 : List aN := [an 0 (.iload_n 1) 1, an 1 (.ifCond .lt 14) 3, an 4 (.iload_n 1) 1, an 5 (.aload_n 0) 1, al 6 (.getfield 44) 3 20 10 36 0, al 9 (.getfield 130) 3 20 0 32 0, an 12 (.if_icmp .lt 11) 3, al 15 (.new 143) 3 13 0 0 0, an 18 .dup 1, al 19 (.invokespecial 145) 3 99 0 0 0, an 22 .athrow 1, an 23 (.iload_n 2) 1, an 24 (.tableswitch 72 0 3 #[32, 42, 52, 62]) 32, an 56 (.aload_n 0) 1, al 57 (.getfield 44) 3 20 10 36 0, al 60 (.getfield 165) 3 20 0 44 0, an 63 (.iload_n 1) 1, an 64 .iaload 1, an 65 .ireturn 1, an 66 (.aload_n 0) 1, al 67 (.getfield 44) 3 20 10 36 0, al 70 (.getfield 168) 3 20 0 52 0, an 73 (.iload_n 1) 1, an 74 .iaload 1, an 75 .ireturn 1, an 76 (.aload_n 0) 1, al 77 (.getfield 44) 3 20 10 36 0, al 80 (.getfield 171) 3 20 0 60 0, an 83 (.iload_n 1) 1, an 84 .iaload 1, an 85 .ireturn 1, an 86 (.aload_n 0) 1, al 87 (.getfield 44) 3 20 10 36 0, al 90 (.getfield 174) 3 20 0 68 0, an 93 (.iload_n 1) 1, an 94 .iaload 1, an 95 .ireturn 1, al 96 (.new 143) 3 13 0 0 0, an 99 .dup 1, al 100 (.invokespecial 145) 3 99 0 0 0, an 103 .athrow 1]
-- 172: BluesAndGreens.quarrel(II)I
def aC172 : List aN := [an 0 (.aload_n 0) 1, al 1 (.getfield 44) 3 20 10 36 0, an 4 (.iload_n 1) 1, al 5 (.invokevirtual 177) 3 2 100 0 0, an 8 (.ifCond .eq 12) 3, an 11 (.iload_n 2) 1, an 12 (.ifCond .lt 8) 3, an 15 (.iload_n 2) 1, an 16 (.iconst 4) 1, an 17 (.if_icmp .le 11) 3, al 20 (.new 143) 3 13 0 0 0, an 23 .dup 1, al 24 (.invokespecial 145) 3 99 0 0 0, an 27 .athrow 1, an 28 (.iload_n 2) 1, an 29 (.iconst 4) 1, an 30 (.if_icmp .ne 14) 3, an 33 (.aload_n 0) 1, al 34 (.getfield 51) 3 20 10 44 0, an 37 (.iload_n 1) 1, al 38 (.invokevirtual 180) 3 2 101 8 0, an 41 (.goto 16) 3, an 44 (.aload_n 0) 1, al 45 (.getfield 44) 3 20 10 36 0, al 48 (.getfield 183) 3 20 0 84 0, an 51 (.iconst 4) 1, an 52 (.iload_n 1) 1, an 53 .imul 1, an 54 (.iload_n 2) 1, an 55 .iadd 1, an 56 .iaload 1, an 57 .ireturn 1]
-- 173: BluesAndGreens.club(II)I
def aC173 : List aN := [an 0 (.iload_n 1) 1, al 1 (.invokestatic 186) 3 1 75 0 0, an 4 (.ifCond .ne 11) 3, al 7 (.new 143) 3 13 0 0 0, an 10 .dup 1, al 11 (.invokespecial 145) 3 99 0 0 0, an 14 .athrow 1, an 15 (.iload_n 2) 1, an 16 (.tableswitch 105 0 5 #[40, 49, 58, 67, 80, 89]) 40, an 56 (.aload_n 0) 1, al 57 (.getfield 51) 3 20 10 44 0, an 60 (.iload_n 1) 1, al 61 (.invokevirtual 189) 3 2 72 8 0, an 64 .ireturn 1, an 65 (.aload_n 0) 1, al 66 (.getfield 51) 3 20 10 44 0, an 69 (.iload_n 1) 1, al 70 (.invokevirtual 192) 3 2 73 8 0, an 73 .ireturn 1, an 74 (.aload_n 0) 1, al 75 (.getfield 51) 3 20 10 44 0, an 78 (.iload_n 1) 1, al 79 (.invokevirtual 195) 3 2 174 8 0, an 82 .ireturn 1, an 83 (.aload_n 0) 1, al 84 (.getfield 51) 3 20 10 44 0, an 87 (.aload_n 0) 1, al 88 (.getfield 44) 3 20 10 36 0, an 91 (.iload_n 1) 1, al 92 (.invokevirtual 198) 3 2 117 8 0, an 95 .ireturn 1, an 96 (.aload_n 0) 1, al 97 (.getfield 44) 3 20 10 36 0, an 100 (.iload_n 1) 1, al 101 (.invokevirtual 202) 3 2 175 0 0, an 104 .ireturn 1, an 105 (.aload_n 0) 1, al 106 (.getfield 44) 3 20 10 36 0, an 109 (.aload_n 0) 1, al 110 (.getfield 44) 3 20 10 36 0, an 113 (.iload_n 1) 1, al 114 (.invokevirtual 202) 3 2 175 0 0, al 117 (.invokevirtual 205) 3 2 135 0 0, an 120 .ireturn 1, al 121 (.new 143) 3 13 0 0 0, an 124 .dup 1, al 125 (.invokespecial 145) 3 99 0 0 0, an 128 .athrow 1]
-- 174: BluesAndGreens$State.winsOf(I)I
def aC174 : List aN := [an 0 (.iload_n 1) 1, an 1 (.ifCond .eq 8) 3, an 4 (.iload_n 1) 1, an 5 (.iconst 1) 1, an 6 (.if_icmp .ne 14) 3, an 9 (.aload_n 0) 1, al 10 (.getfield 11) 3 20 8 4 0, an 13 (.iconst 4) 1, an 14 (.iload_n 1) 1, an 15 .iadd 1, an 16 .iaload 1, an 17 (.goto 4) 3, an 20 (.iconst 0) 1, an 21 .ireturn 1]
-- 175: BluesAndGreens$City.quartersOf(I)I
def aC175 : List aN := [an 0 (.iconst 0) 1, an 1 (.istore_n 2) 1, an 2 (.iconst 0) 1, an 3 (.istore_n 3) 1, an 4 (.iload_n 3) 1, an 5 (.aload_n 0) 1, al 6 (.getfield 50) 3 20 0 32 0, an 9 (.if_icmp .ge 25) 3, an 12 (.aload_n 0) 1, al 13 (.getfield 24) 3 20 0 52 0, an 16 (.iload_n 3) 1, an 17 .iaload 1, an 18 (.iload_n 1) 1, an 19 (.if_icmp .ne 9) 3, an 22 (.iload_n 2) 1, an 23 (.iconst 1) 1, an 24 (.iload_n 3) 1, an 25 .ishl 1, an 26 .ior 1, an 27 (.istore_n 2) 1, an 28 (.iinc 3 1) 3, an 31 (.goto (-27)) 3, an 34 (.iload_n 2) 1, an 35 .ireturn 1]
-- 176: BluesAndGreens.row(I)J
def aC176 : List aN := [an 0 (.iload_n 1) 1, an 1 (.ifCond .lt 14) 3, an 4 (.iload_n 1) 1, an 5 (.aload_n 0) 1, al 6 (.getfield 37) 3 20 10 28 0, al 9 (.getfield 421) 3 20 4 8 0, an 12 (.if_icmp .lt 11) 3, al 15 (.new 143) 3 13 0 0 0, an 18 .dup 1, al 19 (.invokespecial 145) 3 99 0 0 0, an 22 .athrow 1, an 23 (.aload_n 0) 1, al 24 (.getfield 37) 3 20 10 28 0, al 27 (.getfield 425) 3 20 4 4 0, an 30 (.iload_n 1) 1, an 31 .laload 1, an 32 .lreturn 1]
-- 177: BluesAndGreensModel.<init>()V
def aC177 : List aN := [an 0 (.aload_n 0) 1, al 1 (.invokespecial 3) 3 10 0 0 0, an 4 (.aload_n 0) 1, an 5 (.bipush 39) 2, an 7 (.newarray .int) 2, al 9 (.putfield 9) 3 20 11 4 0, an 12 (.aload_n 0) 1, an 13 (.bipush 8) 2, an 15 (.newarray .int) 2, al 17 (.putfield 13) 3 20 11 20 0, an 20 (.aload_n 0) 1, an 21 (.bipush 8) 2, an 23 (.newarray .int) 2, al 25 (.putfield 16) 3 20 11 28 0, an 28 (.aload_n 0) 1, an 29 (.bipush 32) 2, an 31 (.newarray .int) 2, al 33 (.putfield 19) 3 20 11 44 0, an 36 (.aload_n 0) 1, an 37 (.bipush 32) 2, an 39 (.newarray .int) 2, al 41 (.putfield 22) 3 20 11 60 0, an 44 (.aload_n 0) 1, an 45 (.bipush 20) 2, al 47 (.putfield 25) 3 20 11 64 0, an 50 (.aload_n 0) 1, an 51 (.bipush 80) 2, an 53 (.newarray .byte) 2, al 55 (.putfield 29) 3 20 11 76 0, an 58 (.aload_n 0) 1, an 59 (.bipush 16) 2, an 61 (.newarray .long) 2, al 63 (.putfield 33) 3 20 11 92 0, an 66 (.aload_n 0) 1, an 67 (.bipush 32) 2, an 69 (.newarray .int) 2, al 71 (.putfield 37) 3 20 11 156 0, an 74 (.aload_n 0) 1, an 75 (.bipush 40) 2, an 77 (.newarray .byte) 2, al 79 (.putfield 40) 3 20 11 164 0, an 82 (.aload_n 0) 1, an 83 (.bipush 40) 2, an 85 (.newarray .byte) 2, al 87 (.putfield 43) 3 20 11 172 0, an 90 (.aload_n 0) 1, an 91 (.bipush 8) 2, an 93 (.newarray .int) 2, al 95 (.putfield 46) 3 20 11 196 0, an 98 (.aload_n 0) 1, an 99 (.sipush 468) 3, an 102 (.newarray .int) 2, al 104 (.putfield 49) 3 20 11 204 0, an 107 (.aload_n 0) 1, an 108 (.bipush 39) 2, an 110 (.newarray .int) 2, al 112 (.putfield 52) 3 20 11 220 0, an 115 (.aload_n 0) 1, an 116 (.bipush 39) 2, an 118 (.newarray .int) 2, al 120 (.putfield 55) 3 20 11 228 0, an 123 (.aload_n 0) 1, an 124 (.sipush 240) 3, an 127 (.newarray .int) 2, al 129 (.putfield 58) 3 20 11 260 0, an 132 (.aload_n 0) 1, an 133 (.bipush 12) 2, an 135 (.newarray .int) 2, al 137 (.putfield 61) 3 20 11 268 0, an 140 (.aload_n 0) 1, an 141 (.bipush 12) 2, an 143 (.newarray .int) 2, al 145 (.putfield 64) 3 20 11 276 0, an 148 (.aload_n 0) 1, an 149 (.bipush 78) 2, an 151 (.newarray .int) 2, al 153 (.putfield 67) 3 20 11 308 0, an 156 (.aload_n 0) 1, an 157 (.iconst 2) 1, an 158 (.newarray .boolean) 2, al 160 (.putfield 70) 3 20 11 316 0, an 163 (.aload_n 0) 1, an 164 (.iconst 2) 1, an 165 (.newarray .int) 2, al 167 (.putfield 74) 3 20 11 324 0, an 170 (.aload_n 0) 1, al 171 (.getfield 9) 3 20 11 4 0, an 174 (.iconst 0) 1, an 175 (.bipush 100) 2, an 177 .iastore 1, an 178 (.aload_n 0) 1, al 179 (.getfield 9) 3 20 11 4 0, an 182 (.iconst 1) 1, an 183 (.bipush 100) 2, an 185 .iastore 1, an 186 (.iconst 0) 1, an 187 (.istore_n 1) 1, an 188 (.iload_n 1) 1, an 189 (.bipush 8) 2, an 191 (.if_icmp .ge 19) 3, an 194 (.aload_n 0) 1, al 195 (.getfield 9) 3 20 11 4 0, an 198 (.bipush 30) 2, an 200 (.iload_n 1) 1, an 201 .iadd 1, an 202 (.iconst (-1)) 1, an 203 .iastore 1, an 204 (.iinc 1 1) 3, an 207 (.goto (-19)) 3, an 210 .return_ 1]
-- 178: BluesAndGreensModel.thrown()I
def aC178 : List aN := [an 0 (.aload_n 0) 1, al 1 (.getfield 77) 3 20 11 104 0, an 4 .ireturn 1]
-- 179: BluesAndGreensModel.sign(I)I
def aC179 : List aN := [an 0 (.aload_n 0) 1, an 1 (.iconst 0) 1, al 2 (.putfield 77) 3 20 11 104 0, an 5 (.aload_n 0) 1, al 6 (.getfield 93) 3 20 11 80 0, an 9 (.iconst 4) 1, an 10 .iadd 1, an 11 (.bipush 80) 2, an 13 (.if_icmp .le 5) 3, an 16 (.iconst (-1)) 1, an 17 .ireturn 1, an 18 (.iconst 3) 1, an 19 (.istore_n 2) 1, an 20 (.iload_n 2) 1, an 21 (.ifCond .lt 32) 3, an 24 (.aload_n 0) 1, al 25 (.getfield 29) 3 20 11 76 0, an 28 (.aload_n 0) 1, an 29 .dup 1, al 30 (.getfield 93) 3 20 11 80 0, an 33 .dup_x1 1, an 34 (.iconst 1) 1, an 35 .iadd 1, al 36 (.putfield 93) 3 20 11 80 0, an 39 (.iload_n 1) 1, an 40 (.bipush 8) 2, an 42 (.iload_n 2) 1, an 43 .imul 1, an 44 .ishr 1, an 45 .i2b 1, an 46 .bastore 1, an 47 (.iinc 2 (-1)) 3, an 50 (.goto (-30)) 3, an 53 (.aload_n 0) 1, al 54 (.getfield 93) 3 20 11 80 0, an 57 .ireturn 1]
-- 180: BluesAndGreensModel.end(I)Z
def aC180 : List aN := [an 0 (.aload_n 0) 1, an 1 (.iconst 0) 1, al 2 (.putfield 77) 3 20 11 104 0, an 5 (.iload_n 1) 1, an 6 (.iconst 0) 1, an 7 (.aload_n 0) 1, al 8 (.getfield 93) 3 20 11 80 0, al 11 (.invokestatic 86) 3 1 181 0 0, an 14 (.ifCond .ne 5) 3, an 17 (.iconst 0) 1, an 18 .ireturn 1, an 19 (.aload_n 0) 1, an 20 (.iload_n 1) 1, al 21 (.putfield 93) 3 20 11 80 0, an 24 (.iconst 1) 1, an 25 .ireturn 1]
-- 181: BluesAndGreensModel.in(III)Z
def aC181 : List aN := [an 0 (.iload_n 0) 1, an 1 (.iload_n 1) 1, an 2 (.if_icmp .lt 12) 3, an 5 (.iload_n 0) 1, an 6 (.iload_n 2) 1, an 7 (.if_icmp .gt 7) 3, an 10 (.iconst 1) 1, an 11 (.goto 4) 3, an 14 (.iconst 0) 1, an 15 .ireturn 1]
-- 182: BluesAndGreensModel.drivers()I
def aC182_0 : List aN := [an 0 (.aload_n 0) 1, an 1 (.iconst 0) 1, al 2 (.putfield 77) 3 20 11 104 0, an 5 (.aload_n 0) 1, an 6 (.bipush 48) 2, al 8 (.invokevirtual 145) 3 2 183 11 0, an 11 (.aload_n 0) 1, al 12 (.getfield 99) 3 20 11 120 0, an 15 (.ifCond .ne 5) 3, an 18 (.iconst 0) 1, an 19 .ireturn 1, an 20 (.iconst 0) 1, an 21 (.istore_n 1) 1, an 22 (.iconst 1) 1, an 23 (.istore_n 2) 1, an 24 (.iload_n 2) 1, an 25 (.ifCond .eq 92) 3, an 28 (.aload_n 0) 1, al 29 (.invokevirtual 115) 3 2 185 11 0, an 32 (.ifCond .eq 85) 3, an 35 (.aload_n 0) 1, al 36 (.getfield 83) 3 20 11 8 0, an 39 (.iload_n 1) 1, an 40 .iadd 1, an 41 (.bipush 8) 2, an 43 (.if_icmp .ne 14) 3, an 46 (.aload_n 0) 1, an 47 (.aload_n 0) 1, al 48 (.getfield 105) 3 20 11 136 0, al 51 (.invokevirtual 127) 3 2 186 11 0, an 54 (.goto 50) 3, an 57 (.aload_n 0) 1, al 58 (.getfield 37) 3 20 11 156 0, an 61 (.iconst 3) 1, an 62 (.iload_n 1) 1, an 63 .imul 1, an 64 (.aload_n 0) 1, an 65 (.bipush 49) 2, an 67 (.bipush 9) 2, al 69 (.invokevirtual 131) 3 2 187 11 0, an 72 (.iconst 1) 1, an 73 .iadd 1, an 74 .iastore 1, an 75 (.aload_n 0) 1, al 76 (.getfield 37) 3 20 11 156 0, an 79 (.iconst 3) 1, an 80 (.iload_n 1) 1, an 81 .imul 1, an 82 (.iconst 1) 1, an 83 .iadd 1, an 84 (.aload_n 0) 1, an 85 (.iconst 2) 1, al 86 (.invokevirtual 148) 3 2 189 11 0, an 89 .iastore 1, an 90 (.aload_n 0) 1, al 91 (.getfield 37) 3 20 11 156 0, an 94 (.iconst 3) 1, an 95 (.iload_n 1) 1, an 96 .imul 1, an 97 (.iconst 2) 1, an 98 .iadd 1, an 99 (.aload_n 0) 1, al 100 (.invokevirtual 152) 3 2 190 11 0, an 103 .iastore 1, an 104 (.iinc 1 1) 3, an 107 (.aload_n 0) 1, an 108 (.bipush 59) 2, al 110 (.invokevirtual 123) 3 2 191 11 0, an 113 (.istore_n 2) 1, an 114 (.goto (-90)) 3, an 117 (.aload_n 0) 1, al 118 (.invokevirtual 155) 3 2 193 11 0, an 121 (.ifCond .ne 10) 3, an 124 (.iconst (-1)) 1, an 125 (.aload_n 0) 1, al 126 (.getfield 108) 3 20 11 144 0, an 129 .isub 1, an 130 .ireturn 1, an 131 (.iconst 0) 1, an 132 (.istore_n 3) 1, an 133 (.iload_n 3) 1, an 134 (.iload_n 1) 1, an 135 (.if_icmp .ge 103) 3, an 138 (.aload_n 0) 1, al 139 (.getfield 13) 3 20 11 20 0, an 142 (.aload_n 0) 1, al 143 (.getfield 83) 3 20 11 8 0, an 146 (.aload_n 0) 1, al 147 (.getfield 37) 3 20 11 156 0, an 150 (.iconst 3) 1, an 151 (.iload_n 3) 1, an 152 .imul 1, an 153 .iaload 1, an 154 .iastore 1, an 155 (.aload_n 0) 1, al 156 (.getfield 16) 3 20 11 28 0, an 159 (.aload_n 0) 1, al 160 (.getfield 83) 3 20 11 8 0, an 163 (.aload_n 0) 1, al 164 (.getfield 37) 3 20 11 156 0]
def aC182_1 : List aN := [an 167 (.iconst 3) 1, an 168 (.iload_n 3) 1, an 169 .imul 1, an 170 (.iconst 1) 1, an 171 .iadd 1, an 172 .iaload 1, an 173 .iastore 1, an 174 (.aload_n 0) 1, al 175 (.getfield 9) 3 20 11 4 0, an 178 (.bipush 6) 2, an 180 (.aload_n 0) 1, al 181 (.getfield 83) 3 20 11 8 0, an 184 .iadd 1, an 185 (.aload_n 0) 1, al 186 (.getfield 37) 3 20 11 156 0, an 189 (.iconst 3) 1, an 190 (.iload_n 3) 1, an 191 .imul 1, an 192 (.iconst 2) 1, an 193 .iadd 1, an 194 .iaload 1, an 195 .iastore 1, an 196 (.aload_n 0) 1, al 197 (.getfield 9) 3 20 11 4 0, an 200 (.bipush 14) 2, an 202 (.aload_n 0) 1, al 203 (.getfield 83) 3 20 11 8 0, an 206 .iadd 1, an 207 (.iconst 0) 1, an 208 .iastore 1, an 209 (.aload_n 0) 1, al 210 (.getfield 9) 3 20 11 4 0, an 213 (.bipush 22) 2, an 215 (.aload_n 0) 1, al 216 (.getfield 83) 3 20 11 8 0, an 219 .iadd 1, an 220 (.iconst 0) 1, an 221 .iastore 1, an 222 (.aload_n 0) 1, an 223 .dup 1, al 224 (.getfield 83) 3 20 11 8 0, an 227 (.iconst 1) 1, an 228 .iadd 1, al 229 (.putfield 83) 3 20 11 8 0, an 232 (.iinc 3 1) 3, an 235 (.goto (-102)) 3, an 238 (.aload_n 0) 1, al 239 (.invokevirtual 158) 3 2 194 11 0, an 242 (.iload_n 1) 1, an 243 .ireturn 1]
def aC182 : List aN := aC182_0 ++ (aC182_1)
-- 183: BluesAndGreensModel.beginText(I)V
def aC183 : List aN := [an 0 (.aload_n 0) 1, an 1 (.aload_n 0) 1, al 2 (.getfield 29) 3 20 11 76 0, an 5 (.aload_n 0) 1, al 6 (.getfield 93) 3 20 11 80 0, an 9 (.iload_n 1) 1, al 10 (.invokevirtual 111) 3 2 184 11 0, an 13 (.aload_n 0) 1, an 14 (.iconst 0) 1, al 15 (.putfield 93) 3 20 11 80 0, an 18 .return_ 1]
-- 184: BluesAndGreensModel.begin([BII)V
def aC184 : List aN := [an 0 (.aload_n 0) 1, an 1 (.aload_n 1) 1, al 2 (.putfield 96) 3 20 11 116 0, an 5 (.aload_n 0) 1, an 6 (.iload_n 2) 1, al 7 (.putfield 99) 3 20 11 120 0, an 10 (.aload_n 0) 1, an 11 (.iload_n 3) 1, al 12 (.putfield 102) 3 20 11 128 0, an 15 (.aload_n 0) 1, an 16 (.iconst 0) 1, al 17 (.putfield 105) 3 20 11 136 0, an 20 (.aload_n 0) 1, an 21 (.iconst (-1)) 1, al 22 (.putfield 108) 3 20 11 144 0, an 25 .return_ 1]
-- 185: BluesAndGreensModel.fine()Z
def aC185 : List aN := [an 0 (.aload_n 0) 1, al 1 (.getfield 108) 3 20 11 144 0, an 4 (.iconst (-1)) 1, an 5 (.if_icmp .ne 7) 3, an 8 (.iconst 1) 1, an 9 (.goto 4) 3, an 12 (.iconst 0) 1, an 13 .ireturn 1]
-- 186: BluesAndGreensModel.fault(I)V
def aC186 : List aN := [an 0 (.aload_n 0) 1, al 1 (.invokevirtual 115) 3 2 185 11 0, an 4 (.ifCond .eq 8) 3, an 7 (.aload_n 0) 1, an 8 (.iload_n 1) 1, al 9 (.putfield 108) 3 20 11 144 0, an 12 .return_ 1]
-- 187: BluesAndGreensModel.oneOf(CI)I
def aC187 : List aN := [an 0 (.aload_n 0) 1, al 1 (.invokevirtual 115) 3 2 185 11 0, an 4 (.ifCond .ne 5) 3, an 7 (.iconst 0) 1, an 8 .ireturn 1, an 9 (.aload_n 0) 1, al 10 (.invokevirtual 119) 3 2 188 11 0, an 13 (.iload_n 1) 1, an 14 (.iload_n 1) 1, an 15 (.iload_n 2) 1, an 16 .iadd 1, an 17 (.iconst 1) 1, an 18 .isub 1, al 19 (.invokestatic 86) 3 1 181 0 0, an 22 (.ifCond .ne 13) 3, an 25 (.aload_n 0) 1, an 26 (.aload_n 0) 1, al 27 (.getfield 105) 3 20 11 136 0, al 30 (.invokevirtual 127) 3 2 186 11 0, an 33 (.iconst 0) 1, an 34 .ireturn 1, an 35 (.aload_n 0) 1, an 36 .dup 1, al 37 (.getfield 105) 3 20 11 136 0, an 40 (.iconst 1) 1, an 41 .iadd 1, al 42 (.putfield 105) 3 20 11 136 0, an 45 (.aload_n 0) 1, al 46 (.getfield 96) 3 20 11 116 0, an 49 (.aload_n 0) 1, al 50 (.getfield 105) 3 20 11 136 0, an 53 (.iconst 1) 1, an 54 .isub 1, an 55 .baload 1, an 56 (.iload_n 1) 1, an 57 .isub 1, an 58 .ireturn 1]
-- 188: BluesAndGreensModel.here()I
def aC188 : List aN := [an 0 (.aload_n 0) 1, al 1 (.getfield 105) 3 20 11 136 0, an 4 (.aload_n 0) 1, al 5 (.getfield 99) 3 20 11 120 0, an 8 (.if_icmp .ge 30) 3, an 11 (.aload_n 0) 1, al 12 (.getfield 105) 3 20 11 136 0, an 15 (.aload_n 0) 1, al 16 (.getfield 102) 3 20 11 128 0, an 19 (.if_icmp .ge 19) 3, an 22 (.aload_n 0) 1, al 23 (.getfield 96) 3 20 11 116 0, an 26 (.aload_n 0) 1, al 27 (.getfield 105) 3 20 11 136 0, an 30 .baload 1, an 31 (.sipush 255) 3, an 34 .iand 1, an 35 (.goto 4) 3, an 38 (.iconst (-1)) 1, an 39 .ireturn 1]
-- 189: BluesAndGreensModel.number(I)I
def aC189 : List aN := [an 0 (.aload_n 0) 1, an 1 (.bipush 48) 2, an 3 (.bipush 10) 2, al 5 (.invokevirtual 131) 3 2 187 11 0, an 8 (.istore_n 2) 1, an 9 (.iconst 1) 1, an 10 (.istore_n 3) 1, an 11 (.iload_n 3) 1, an 12 (.iload_n 1) 1, an 13 (.if_icmp .ge 44) 3, an 16 (.aload_n 0) 1, al 17 (.invokevirtual 115) 3 2 185 11 0, an 20 (.ifCond .eq 37) 3, an 23 (.aload_n 0) 1, al 24 (.invokevirtual 119) 3 2 188 11 0, an 27 (.bipush 48) 2, an 29 (.bipush 57) 2, al 31 (.invokestatic 86) 3 1 181 0 0, an 34 (.ifCond .eq 23) 3, an 37 (.bipush 10) 2, an 39 (.iload_n 2) 1, an 40 .imul 1, an 41 (.aload_n 0) 1, an 42 (.bipush 48) 2, an 44 (.bipush 10) 2, al 46 (.invokevirtual 131) 3 2 187 11 0, an 49 .iadd 1, an 50 (.istore_n 2) 1, an 51 (.iinc 3 1) 3, an 54 (.goto (-43)) 3, an 57 (.iload_n 2) 1, an 58 .ireturn 1]
-- 190: BluesAndGreensModel.readClub()I
def aC190 : List aN := [an 0 (.aload_n 0) 1, an 1 (.bipush 98) 2, al 3 (.invokevirtual 123) 3 2 191 11 0, an 6 (.ifCond .eq 5) 3, an 9 (.iconst 0) 1, an 10 .ireturn 1, an 11 (.aload_n 0) 1, an 12 (.bipush 103) 2, al 14 (.invokevirtual 135) 3 2 192 11 0, an 17 (.iconst 1) 1, an 18 .ireturn 1]
-- 191: BluesAndGreensModel.passes(C)Z
def aC191 : List aN := [an 0 (.aload_n 0) 1, al 1 (.invokevirtual 115) 3 2 185 11 0, an 4 (.ifCond .eq 11) 3, an 7 (.aload_n 0) 1, al 8 (.invokevirtual 119) 3 2 188 11 0, an 11 (.iload_n 1) 1, an 12 (.if_icmp .eq 5) 3, an 15 (.iconst 0) 1, an 16 .ireturn 1, an 17 (.aload_n 0) 1, an 18 .dup 1, al 19 (.getfield 105) 3 20 11 136 0, an 22 (.iconst 1) 1, an 23 .iadd 1, al 24 (.putfield 105) 3 20 11 136 0, an 27 (.iconst 1) 1, an 28 .ireturn 1]
-- 192: BluesAndGreensModel.need(C)V
def aC192 : List aN := [an 0 (.aload_n 0) 1, an 1 (.iload_n 1) 1, al 2 (.invokevirtual 123) 3 2 191 11 0, an 5 (.ifCond .ne 11) 3, an 8 (.aload_n 0) 1, an 9 (.aload_n 0) 1, al 10 (.getfield 105) 3 20 11 136 0, al 13 (.invokevirtual 127) 3 2 186 11 0, an 16 .return_ 1]
-- 193: BluesAndGreensModel.wasRight()Z
def aC193 : List aN := [an 0 (.aload_n 0) 1, al 1 (.getfield 105) 3 20 11 136 0, an 4 (.aload_n 0) 1, al 5 (.getfield 99) 3 20 11 120 0, an 8 (.if_icmp .ge 11) 3, an 11 (.aload_n 0) 1, an 12 (.aload_n 0) 1, al 13 (.getfield 105) 3 20 11 136 0, al 16 (.invokevirtual 127) 3 2 186 11 0, an 19 (.aload_n 0) 1, al 20 (.invokevirtual 115) 3 2 185 11 0, an 23 .ireturn 1]
-- 194: BluesAndGreensModel.told()V
def aC194 : List aN := [an 0 (.aload_n 0) 1, an 1 (.iconst 0) 1, al 2 (.putfield 139) 3 20 11 208 0, an 5 (.aload_n 0) 1, an 6 .dup 1, al 7 (.getfield 142) 3 20 11 296 0, an 10 (.iconst 1) 1, an 11 .iadd 1, al 12 (.putfield 142) 3 20 11 296 0, an 15 .return_ 1]
-- 195: BluesAndGreensModel.quarters()I
def aC195 : List aN := [an 0 (.aload_n 0) 1, an 1 (.iconst 0) 1, al 2 (.putfield 77) 3 20 11 104 0, an 5 (.aload_n 0) 1, an 6 (.bipush 76) 2, al 8 (.invokevirtual 145) 3 2 183 11 0, an 11 (.aload_n 0) 1, al 12 (.getfield 99) 3 20 11 120 0, an 15 (.ifCond .ne 5) 3, an 18 (.iconst 0) 1, an 19 .ireturn 1, an 20 (.iconst 0) 1, an 21 (.istore_n 1) 1, an 22 (.iconst 1) 1, an 23 (.istore_n 2) 1, an 24 (.iload_n 2) 1, an 25 (.ifCond .eq 52) 3, an 28 (.aload_n 0) 1, al 29 (.invokevirtual 115) 3 2 185 11 0, an 32 (.ifCond .eq 45) 3, an 35 (.aload_n 0) 1, al 36 (.getfield 90) 3 20 11 32 0, an 39 (.iload_n 1) 1, an 40 .iadd 1, an 41 (.bipush 8) 2, an 43 (.if_icmp .ne 14) 3, an 46 (.aload_n 0) 1, an 47 (.aload_n 0) 1, al 48 (.getfield 105) 3 20 11 136 0, al 51 (.invokevirtual 127) 3 2 186 11 0, an 54 (.goto 10) 3, an 57 (.aload_n 0) 1, an 58 (.iconst 4) 1, an 59 (.iload_n 1) 1, an 60 .imul 1, al 61 (.invokevirtual 161) 3 2 196 11 0, an 64 (.iinc 1 1) 3, an 67 (.aload_n 0) 1, an 68 (.bipush 59) 2, al 70 (.invokevirtual 123) 3 2 191 11 0, an 73 (.istore_n 2) 1, an 74 (.goto (-50)) 3, an 77 (.aload_n 0) 1, al 78 (.invokevirtual 155) 3 2 193 11 0, an 81 (.ifCond .ne 10) 3, an 84 (.iconst (-1)) 1, an 85 (.aload_n 0) 1, al 86 (.getfield 108) 3 20 11 144 0, an 89 .isub 1, an 90 .ireturn 1, an 91 (.iconst 0) 1, an 92 (.istore_n 3) 1, an 93 (.iload_n 3) 1, an 94 (.iconst 4) 1, an 95 (.iload_n 1) 1, an 96 .imul 1, an 97 (.if_icmp .ge 28) 3, an 100 (.aload_n 0) 1, al 101 (.getfield 19) 3 20 11 44 0, an 104 (.iconst 4) 1, an 105 (.aload_n 0) 1, al 106 (.getfield 90) 3 20 11 32 0, an 109 .imul 1, an 110 (.iload_n 3) 1, an 111 .iadd 1, an 112 (.aload_n 0) 1, al 113 (.getfield 37) 3 20 11 156 0, an 116 (.iload_n 3) 1, an 117 .iaload 1, an 118 .iastore 1, an 119 (.iinc 3 1) 3, an 122 (.goto (-29)) 3, an 125 (.aload_n 0) 1, an 126 .dup 1, al 127 (.getfield 90) 3 20 11 32 0, an 130 (.iload_n 1) 1, an 131 .iadd 1, al 132 (.putfield 90) 3 20 11 32 0, an 135 (.aload_n 0) 1, al 136 (.invokevirtual 158) 3 2 194 11 0, an 139 (.iload_n 1) 1, an 140 .ireturn 1]
-- 196: BluesAndGreensModel.readQuarter(I)V
def aC196 : List aN := [an 0 (.aload_n 0) 1, al 1 (.getfield 37) 3 20 11 156 0, an 4 (.iload_n 1) 1, an 5 (.aload_n 0) 1, an 6 (.iconst 2) 1, al 7 (.invokevirtual 148) 3 2 189 11 0, an 10 .iastore 1, an 11 (.aload_n 0) 1, al 12 (.invokevirtual 115) 3 2 185 11 0, an 15 (.ifCond .eq 22) 3, an 18 (.aload_n 0) 1, al 19 (.getfield 37) 3 20 11 156 0, an 22 (.iload_n 1) 1, an 23 .iaload 1, an 24 (.ifCond .ne 13) 3, an 27 (.aload_n 0) 1, an 28 (.aload_n 0) 1, al 29 (.getfield 105) 3 20 11 136 0, an 32 (.iconst 1) 1, an 33 .isub 1, al 34 (.invokevirtual 127) 3 2 186 11 0, an 37 (.aload_n 0) 1, al 38 (.getfield 37) 3 20 11 156 0, an 41 (.iload_n 1) 1, an 42 (.iconst 1) 1, an 43 .iadd 1, an 44 (.aload_n 0) 1, al 45 (.invokevirtual 152) 3 2 190 11 0, an 48 .iastore 1, an 49 (.aload_n 0) 1, al 50 (.getfield 37) 3 20 11 156 0, an 53 (.iload_n 1) 1, an 54 (.iconst 2) 1, an 55 .iadd 1, an 56 (.aload_n 0) 1, an 57 (.bipush 48) 2, an 59 (.bipush 10) 2, al 61 (.invokevirtual 131) 3 2 187 11 0, an 64 .iastore 1, an 65 (.aload_n 0) 1, al 66 (.getfield 37) 3 20 11 156 0, an 69 (.iload_n 1) 1, an 70 (.iconst 3) 1, an 71 .iadd 1, an 72 (.iconst 0) 1, an 73 .iastore 1, an 74 (.iconst (-1)) 1, an 75 (.istore_n 2) 1, an 76 (.aload_n 0) 1, al 77 (.invokevirtual 115) 3 2 185 11 0, an 80 (.ifCond .eq 70) 3, an 83 (.aload_n 0) 1, al 84 (.invokevirtual 119) 3 2 188 11 0, an 87 (.bipush 97) 2, an 89 (.bipush 105) 2, al 91 (.invokestatic 86) 3 1 181 0 0, an 94 (.ifCond .eq 56) 3, an 97 (.aload_n 0) 1, al 98 (.invokevirtual 119) 3 2 188 11 0, an 101 (.bipush 97) 2, an 103 .isub 1, an 104 (.istore_n 3) 1, an 105 (.iload_n 3) 1, an 106 (.iload_n 2) 1, an 107 (.if_icmp .gt 14) 3, an 110 (.aload_n 0) 1, an 111 (.aload_n 0) 1, al 112 (.getfield 105) 3 20 11 136 0, al 115 (.invokevirtual 127) 3 2 186 11 0, an 118 (.goto 29) 3, an 121 (.aload_n 0) 1, an 122 .dup 1, al 123 (.getfield 105) 3 20 11 136 0, an 126 (.iconst 1) 1, an 127 .iadd 1, al 128 (.putfield 105) 3 20 11 136 0, an 131 (.aload_n 0) 1, al 132 (.getfield 37) 3 20 11 156 0, an 135 (.iload_n 1) 1, an 136 (.iconst 3) 1, an 137 .iadd 1, an 138 .dup2 1, an 139 .iaload 1, an 140 (.iconst 1) 1, an 141 (.iload_n 3) 1, an 142 .ishl 1, an 143 .ior 1, an 144 .iastore 1, an 145 (.iload_n 3) 1, an 146 (.istore_n 2) 1, an 147 (.goto (-71)) 3, an 150 .return_ 1]
-- 197: BluesAndGreensModel.quarrels()I
def aC197 : List aN := [an 0 (.aload_n 0) 1, an 1 (.iconst 0) 1, al 2 (.putfield 77) 3 20 11 104 0, an 5 (.aload_n 0) 1, an 6 (.bipush 44) 2, al 8 (.invokevirtual 145) 3 2 183 11 0, an 11 (.aload_n 0) 1, al 12 (.getfield 99) 3 20 11 120 0, an 15 (.ifCond .ne 5) 3, an 18 (.iconst 0) 1, an 19 .ireturn 1, an 20 (.iconst 0) 1, an 21 (.istore_n 1) 1, an 22 (.iconst 1) 1, an 23 (.istore_n 2) 1, an 24 (.iload_n 2) 1, an 25 (.ifCond .eq 76) 3, an 28 (.aload_n 0) 1, al 29 (.invokevirtual 115) 3 2 185 11 0, an 32 (.ifCond .eq 69) 3, an 35 (.aload_n 0) 1, al 36 (.getfield 164) 3 20 11 48 0, an 39 (.iload_n 1) 1, an 40 .iadd 1, an 41 (.bipush 8) 2, an 43 (.if_icmp .ne 14) 3, an 46 (.aload_n 0) 1, an 47 (.aload_n 0) 1, al 48 (.getfield 105) 3 20 11 136 0, al 51 (.invokevirtual 127) 3 2 186 11 0, an 54 (.goto 34) 3, an 57 (.iconst 0) 1, an 58 (.istore_n 3) 1, an 59 (.iload_n 3) 1, an 60 (.iconst 4) 1, an 61 (.if_icmp .ge 27) 3, an 64 (.aload_n 0) 1, al 65 (.getfield 37) 3 20 11 156 0, an 68 (.iconst 4) 1, an 69 (.iload_n 1) 1, an 70 .imul 1, an 71 (.iload_n 3) 1, an 72 .iadd 1, an 73 (.aload_n 0) 1, an 74 (.bipush 48) 2, an 76 (.bipush 10) 2, al 78 (.invokevirtual 131) 3 2 187 11 0, an 81 .iastore 1, an 82 (.iinc 3 1) 3, an 85 (.goto (-26)) 3, an 88 (.iinc 1 1) 3, an 91 (.aload_n 0) 1, an 92 (.bipush 59) 2, al 94 (.invokevirtual 123) 3 2 191 11 0, an 97 (.istore_n 2) 1, an 98 (.goto (-74)) 3, an 101 (.aload_n 0) 1, al 102 (.invokevirtual 155) 3 2 193 11 0, an 105 (.ifCond .ne 10) 3, an 108 (.iconst (-1)) 1, an 109 (.aload_n 0) 1, al 110 (.getfield 108) 3 20 11 144 0, an 113 .isub 1, an 114 .ireturn 1, an 115 (.iconst 0) 1, an 116 (.istore_n 3) 1, an 117 (.iload_n 3) 1, an 118 (.iconst 4) 1, an 119 (.iload_n 1) 1, an 120 .imul 1, an 121 (.if_icmp .ge 28) 3, an 124 (.aload_n 0) 1, al 125 (.getfield 22) 3 20 11 60 0, an 128 (.iconst 4) 1, an 129 (.aload_n 0) 1, al 130 (.getfield 164) 3 20 11 48 0, an 133 .imul 1, an 134 (.iload_n 3) 1, an 135 .iadd 1, an 136 (.aload_n 0) 1, al 137 (.getfield 37) 3 20 11 156 0, an 140 (.iload_n 3) 1, an 141 .iaload 1, an 142 .iastore 1, an 143 (.iinc 3 1) 3, an 146 (.goto (-29)) 3, an 149 (.iconst 0) 1, an 150 (.istore_n 3) 1, an 151 (.iload_n 3) 1, an 152 (.iload_n 1) 1, an 153 (.if_icmp .ge 32) 3, an 156 (.aload_n 0) 1, al 157 (.getfield 9) 3 20 11 4 0, an 160 (.bipush 30) 2, an 162 (.aload_n 0) 1, al 163 (.getfield 164) 3 20 11 48 0, an 166 .iadd 1, an 167 (.iconst (-1)) 1, an 168 .iastore 1, an 169 (.aload_n 0) 1, an 170 .dup 1, al 171 (.getfield 164) 3 20 11 48 0, an 174 (.iconst 1) 1, an 175 .iadd 1, al 176 (.putfield 164) 3 20 11 48 0, an 179 (.iinc 3 1) 3, an 182 (.goto (-31)) 3, an 185 (.aload_n 0) 1, al 186 (.invokevirtual 158) 3 2 194 11 0, an 189 (.iload_n 1) 1, an 190 .ireturn 1]
-- 198: BluesAndGreensModel.rule()I
def aC198 : List aN := [an 0 (.aload_n 0) 1, an 1 (.iconst 0) 1, al 2 (.putfield 77) 3 20 11 104 0, an 5 (.aload_n 0) 1, al 6 (.getfield 93) 3 20 11 80 0, an 9 (.istore_n 1) 1, an 10 (.aload_n 0) 1, al 11 (.invokevirtual 186) 3 2 199 11 0, an 14 (.ifCond .ne 10) 3, an 17 (.iconst (-1)) 1, an 18 (.aload_n 0) 1, al 19 (.getfield 108) 3 20 11 144 0, an 22 .isub 1, an 23 .ireturn 1, an 24 (.iconst 0) 1, an 25 (.istore_n 2) 1, an 26 (.iload_n 2) 1, an 27 (.iload_n 1) 1, an 28 (.if_icmp .ge 21) 3, an 31 (.aload_n 0) 1, al 32 (.getfield 40) 3 20 11 164 0, an 35 (.iload_n 2) 1, an 36 (.aload_n 0) 1, al 37 (.getfield 29) 3 20 11 76 0, an 40 (.iload_n 2) 1, an 41 .baload 1, an 42 .bastore 1, an 43 (.iinc 2 1) 3, an 46 (.goto (-20)) 3, an 49 (.aload_n 0) 1, an 50 (.iload_n 1) 1, al 51 (.putfield 189) 3 20 11 176 0, an 54 (.iconst 0) 1, an 55 .ireturn 1]
-- 199: BluesAndGreensModel.readRule()Z
def aC199 : List aN := [an 0 (.aload_n 0) 1, an 1 (.bipush 40) 2, al 3 (.invokevirtual 145) 3 2 183 11 0, an 6 (.aload_n 0) 1, an 7 (.iconst 0) 1, al 8 (.putfield 182) 3 20 11 185 0, an 11 (.aload_n 0) 1, al 12 (.getfield 99) 3 20 11 120 0, an 15 (.ifCond .le 9) 3, an 18 (.aload_n 0) 1, an 19 (.iconst 0) 1, al 20 (.invokevirtual 176) 3 2 200 11 0, an 23 .pop 1, an 24 (.aload_n 0) 1, al 25 (.invokevirtual 155) 3 2 193 11 0, an 28 .ireturn 1]
-- 200: BluesAndGreensModel.held(I)I
def aC200 : List aN := [an 0 (.aload_n 0) 1, an 1 (.iload_n 1) 1, al 2 (.invokevirtual 167) 3 2 201 11 0, an 5 (.istore_n 2) 1, an 6 (.aload_n 0) 1, an 7 (.bipush 60) 2, al 9 (.invokevirtual 123) 3 2 191 11 0, an 12 (.ifCond .eq 18) 3, an 15 (.iload_n 2) 1, an 16 (.aload_n 0) 1, an 17 (.iload_n 1) 1, al 18 (.invokevirtual 167) 3 2 201 11 0, an 21 (.if_icmp .ge 7) 3, an 24 (.iconst 1) 1, an 25 (.goto 4) 3, an 28 (.iconst 0) 1, an 29 .ireturn 1, an 30 (.aload_n 0) 1, an 31 (.bipush 62) 2, al 33 (.invokevirtual 123) 3 2 191 11 0, an 36 (.ifCond .eq 18) 3, an 39 (.iload_n 2) 1, an 40 (.aload_n 0) 1, an 41 (.iload_n 1) 1, al 42 (.invokevirtual 167) 3 2 201 11 0, an 45 (.if_icmp .le 7) 3, an 48 (.iconst 1) 1, an 49 (.goto 4) 3, an 52 (.iconst 0) 1, an 53 .ireturn 1, an 54 (.aload_n 0) 1, an 55 (.bipush 61) 2, al 57 (.invokevirtual 123) 3 2 191 11 0, an 60 (.ifCond .eq 18) 3, an 63 (.iload_n 2) 1, an 64 (.aload_n 0) 1, an 65 (.iload_n 1) 1, al 66 (.invokevirtual 167) 3 2 201 11 0, an 69 (.if_icmp .ne 7) 3, an 72 (.iconst 1) 1, an 73 (.goto 4) 3, an 76 (.iconst 0) 1, an 77 .ireturn 1, an 78 (.iload_n 2) 1, an 79 .ireturn 1]
-- 201: BluesAndGreensModel.sum(I)I
def aC201 : List aN := [an 0 (.aload_n 0) 1, an 1 (.iload_n 1) 1, al 2 (.invokevirtual 170) 3 2 202 11 0, an 5 (.istore_n 2) 1, an 6 (.aload_n 0) 1, al 7 (.invokevirtual 115) 3 2 185 11 0, an 10 (.ifCond .eq 72) 3, an 13 (.aload_n 0) 1, al 14 (.invokevirtual 119) 3 2 188 11 0, an 17 (.bipush 43) 2, an 19 (.if_icmp .eq 12) 3, an 22 (.aload_n 0) 1, al 23 (.invokevirtual 119) 3 2 188 11 0, an 26 (.bipush 45) 2, an 28 (.if_icmp .ne 54) 3, an 31 (.aload_n 0) 1, al 32 (.invokevirtual 119) 3 2 188 11 0, an 35 (.bipush 43) 2, an 37 (.if_icmp .ne 7) 3, an 40 (.iconst 1) 1, an 41 (.goto 4) 3, an 44 (.iconst 0) 1, an 45 (.istore_n 3) 1, an 46 (.aload_n 0) 1, an 47 .dup 1, al 48 (.getfield 105) 3 20 11 136 0, an 51 (.iconst 1) 1, an 52 .iadd 1, al 53 (.putfield 105) 3 20 11 136 0, an 56 (.aload_n 0) 1, an 57 (.iload_n 1) 1, al 58 (.invokevirtual 170) 3 2 202 11 0, an 61 (.istore 4) 2, an 63 (.iload_n 3) 1, an 64 (.ifCond .eq 10) 3, an 67 (.iload_n 2) 1, an 68 (.iload 4) 2, an 70 .iadd 1, an 71 (.goto 7) 3, an 74 (.iload_n 2) 1, an 75 (.iload 4) 2, an 77 .isub 1, an 78 (.istore_n 2) 1, an 79 (.goto (-73)) 3, an 82 (.iload_n 2) 1, an 83 .ireturn 1]
-- 202: BluesAndGreensModel.product(I)I
def aC202 : List aN := [an 0 (.aload_n 0) 1, an 1 (.iload_n 1) 1, al 2 (.invokevirtual 173) 3 2 203 11 0, an 5 (.istore_n 2) 1, an 6 (.aload_n 0) 1, al 7 (.invokevirtual 115) 3 2 185 11 0, an 10 (.ifCond .eq 81) 3, an 13 (.aload_n 0) 1, al 14 (.invokevirtual 119) 3 2 188 11 0, an 17 (.bipush 42) 2, an 19 (.if_icmp .eq 12) 3, an 22 (.aload_n 0) 1, al 23 (.invokevirtual 119) 3 2 188 11 0, an 26 (.bipush 47) 2, an 28 (.if_icmp .ne 63) 3, an 31 (.aload_n 0) 1, al 32 (.invokevirtual 119) 3 2 188 11 0, an 35 (.bipush 42) 2, an 37 (.if_icmp .ne 7) 3, an 40 (.iconst 1) 1, an 41 (.goto 4) 3, an 44 (.iconst 0) 1, an 45 (.istore_n 3) 1, an 46 (.aload_n 0) 1, an 47 .dup 1, al 48 (.getfield 105) 3 20 11 136 0, an 51 (.iconst 1) 1, an 52 .iadd 1, al 53 (.putfield 105) 3 20 11 136 0, an 56 (.aload_n 0) 1, an 57 (.iload_n 1) 1, al 58 (.invokevirtual 173) 3 2 203 11 0, an 61 (.istore 4) 2, an 63 (.iload_n 3) 1, an 64 (.ifCond .eq 10) 3, an 67 (.iload_n 2) 1, an 68 (.iload 4) 2, an 70 .imul 1, an 71 (.goto 16) 3, an 74 (.iload 4) 2, an 76 (.ifCond .ne 7) 3, an 79 (.iconst 0) 1, an 80 (.goto 7) 3, an 83 (.iload_n 2) 1, an 84 (.iload 4) 2, an 86 .idiv 1, an 87 (.istore_n 2) 1, an 88 (.goto (-82)) 3, an 91 (.iload_n 2) 1, an 92 .ireturn 1]
-- 203: BluesAndGreensModel.thing(I)I
def aC203 : List aN := [an 0 (.aload_n 0) 1, an 1 (.bipush 45) 2, al 3 (.invokevirtual 123) 3 2 191 11 0, an 6 (.ifCond .eq 10) 3, an 9 (.aload_n 0) 1, an 10 (.iload_n 1) 1, al 11 (.invokevirtual 173) 3 2 203 11 0, an 14 .ineg 1, an 15 .ireturn 1, an 16 (.aload_n 0) 1, al 17 (.invokevirtual 115) 3 2 185 11 0, an 20 (.ifCond .ne 5) 3, an 23 (.iconst 0) 1, an 24 .ireturn 1, an 25 (.aload_n 0) 1, al 26 (.invokevirtual 119) 3 2 188 11 0, an 29 (.istore_n 2) 1, an 30 (.iload_n 2) 1, an 31 (.bipush 40) 2, an 33 (.if_icmp .ne 34) 3, an 36 (.iload_n 1) 1, an 37 (.iconst 4) 1, an 38 (.if_icmp .ge 29) 3, an 41 (.aload_n 0) 1, an 42 .dup 1, al 43 (.getfield 105) 3 20 11 136 0, an 46 (.iconst 1) 1, an 47 .iadd 1, al 48 (.putfield 105) 3 20 11 136 0, an 51 (.aload_n 0) 1, an 52 (.iload_n 1) 1, an 53 (.iconst 1) 1, an 54 .iadd 1, al 55 (.invokevirtual 176) 3 2 200 11 0, an 58 (.istore_n 3) 1, an 59 (.aload_n 0) 1, an 60 (.bipush 41) 2, al 62 (.invokevirtual 135) 3 2 192 11 0, an 65 (.iload_n 3) 1, an 66 .ireturn 1, an 67 (.iload_n 2) 1, an 68 (.bipush 48) 2, an 70 (.bipush 57) 2, al 72 (.invokestatic 86) 3 1 181 0 0, an 75 (.ifCond .eq 9) 3, an 78 (.aload_n 0) 1, an 79 (.iconst 3) 1, al 80 (.invokevirtual 148) 3 2 189 11 0, an 83 .ireturn 1, an 84 (.iload_n 2) 1, al 85 (.invokestatic 179) 3 1 204 0 0, an 88 (.iconst (-1)) 1, an 89 (.if_icmp .ne 13) 3, an 92 (.aload_n 0) 1, an 93 (.aload_n 0) 1, al 94 (.getfield 105) 3 20 11 136 0, al 97 (.invokevirtual 127) 3 2 186 11 0, an 100 (.iconst 0) 1, an 101 .ireturn 1, an 102 (.aload_n 0) 1, an 103 .dup 1, al 104 (.getfield 105) 3 20 11 136 0, an 107 (.iconst 1) 1, an 108 .iadd 1, al 109 (.putfield 105) 3 20 11 136 0, an 112 (.aload_n 0) 1, al 113 (.getfield 182) 3 20 11 185 0, an 116 (.ifCond .eq 15) 3, an 119 (.aload_n 0) 1, al 120 (.getfield 46) 3 20 11 196 0, an 123 (.iload_n 2) 1, al 124 (.invokestatic 179) 3 1 204 0 0, an 127 .iaload 1, an 128 (.goto 4) 3, an 131 (.iconst 0) 1, an 132 .ireturn 1]
-- 204: BluesAndGreensModel.letterOf(I)I
def aC204 : List aN := [an 0 (.iload_n 0) 1, an 1 (.bipush 115) 2, an 3 (.if_icmp .ne 7) 3, an 6 (.iconst 0) 1, an 7 (.goto 76) 3, an 10 (.iload_n 0) 1, an 11 (.bipush 99) 2, an 13 (.if_icmp .ne 7) 3, an 16 (.iconst 1) 1, an 17 (.goto 66) 3, an 20 (.iload_n 0) 1, an 21 (.bipush 105) 2, an 23 (.if_icmp .ne 7) 3, an 26 (.iconst 2) 1, an 27 (.goto 56) 3, an 30 (.iload_n 0) 1, an 31 (.bipush 119) 2, an 33 (.if_icmp .ne 7) 3, an 36 (.iconst 3) 1, an 37 (.goto 46) 3, an 40 (.iload_n 0) 1, an 41 (.bipush 110) 2, an 43 (.if_icmp .ne 7) 3, an 46 (.iconst 4) 1, an 47 (.goto 36) 3, an 50 (.iload_n 0) 1, an 51 (.bipush 111) 2, an 53 (.if_icmp .ne 7) 3, an 56 (.iconst 5) 1, an 57 (.goto 26) 3, an 60 (.iload_n 0) 1, an 61 (.bipush 109) 2, an 63 (.if_icmp .ne 8) 3, an 66 (.bipush 6) 2, an 68 (.goto 15) 3, an 71 (.iload_n 0) 1, an 72 (.bipush 97) 2, an 74 (.if_icmp .ne 8) 3, an 77 (.bipush 7) 2, an 79 (.goto 4) 3, an 82 (.iconst (-1)) 1, an 83 .ireturn 1]
-- 205: BluesAndGreensModel.driver(II)I
def aC205 : List aN := [an 0 (.aload_n 0) 1, an 1 (.iconst 0) 1, al 2 (.putfield 77) 3 20 11 104 0, an 5 (.aload_n 0) 1, an 6 (.iload_n 1) 1, al 7 (.invokevirtual 192) 3 2 206 11 0, an 10 (.ifCond .eq 12) 3, an 13 (.iload_n 2) 1, an 14 (.iconst 0) 1, an 15 (.iconst 4) 1, al 16 (.invokestatic 86) 3 1 181 0 0, an 19 (.ifCond .ne 8) 3, an 22 (.aload_n 0) 1, al 23 (.invokevirtual 196) 3 2 207 11 0, an 26 .ireturn 1, an 27 (.iload_n 2) 1, an 28 (.ifCond .ne 12) 3, an 31 (.aload_n 0) 1, al 32 (.getfield 13) 3 20 11 20 0, an 35 (.iload_n 1) 1, an 36 .iaload 1, an 37 (.goto 46) 3, an 40 (.iload_n 2) 1, an 41 (.iconst 1) 1, an 42 (.if_icmp .ne 12) 3, an 45 (.aload_n 0) 1, al 46 (.getfield 16) 3 20 11 28 0, an 49 (.iload_n 1) 1, an 50 .iaload 1, an 51 (.goto 32) 3, an 54 (.aload_n 0) 1, al 55 (.getfield 9) 3 20 11 4 0, an 58 (.iload_n 2) 1, an 59 (.iconst 2) 1, an 60 (.if_icmp .ne 8) 3, an 63 (.bipush 6) 2, an 65 (.goto 15) 3, an 68 (.iload_n 2) 1, an 69 (.iconst 3) 1, an 70 (.if_icmp .ne 8) 3, an 73 (.bipush 14) 2, an 75 (.goto 5) 3, an 78 (.bipush 22) 2, an 80 (.iload_n 1) 1, an 81 .iadd 1, an 82 .iaload 1, an 83 .ireturn 1]
-- 206: BluesAndGreensModel.isDriver(I)Z
def aC206 : List aN := [an 0 (.iload_n 1) 1, an 1 (.iconst 0) 1, an 2 (.aload_n 0) 1, al 3 (.getfield 83) 3 20 11 8 0, an 6 (.iconst 1) 1, an 7 .isub 1, al 8 (.invokestatic 86) 3 1 181 0 0, an 11 .ireturn 1]
-- 207: BluesAndGreensModel.lost()I
def aC207 : List aN := [an 0 (.aload_n 0) 1, an 1 (.iconst 1) 1, al 2 (.putfield 77) 3 20 11 104 0, an 5 (.iconst 0) 1, an 6 .ireturn 1]
-- 208: BluesAndGreensModel.strength(I)I
def aC208 : List aN := [an 0 (.aload_n 0) 1, an 1 (.iconst 0) 1, al 2 (.putfield 77) 3 20 11 104 0, an 5 (.aload_n 0) 1, an 6 (.iload_n 1) 1, al 7 (.invokevirtual 192) 3 2 206 11 0, an 10 (.ifCond .eq 15) 3, an 13 (.aload_n 0) 1, an 14 (.aload_n 0) 1, al 15 (.getfield 9) 3 20 11 4 0, an 18 (.iload_n 1) 1, al 19 (.invokevirtual 199) 3 2 209 11 0, an 22 (.goto 7) 3, an 25 (.aload_n 0) 1, al 26 (.invokevirtual 196) 3 2 207 11 0, an 29 .ireturn 1]
-- 209: BluesAndGreensModel.strengthOf([II)I
def aC209 : List aN := [an 0 (.aload_n 1) 1, an 1 (.bipush 6) 2, an 3 (.iload_n 2) 1, an 4 .iadd 1, an 5 .iaload 1, an 6 (.istore_n 3) 1, an 7 (.aload_n 0) 1, al 8 (.getfield 189) 3 20 11 176 0, an 11 (.ifCond .ne 35) 3, an 14 (.aload_n 0) 1, al 15 (.getfield 13) 3 20 11 20 0, an 18 (.iload_n 2) 1, an 19 .iaload 1, an 20 (.bipush 10) 2, an 22 .imul 1, an 23 (.aload_n 1) 1, an 24 (.bipush 14) 2, an 26 (.iload_n 2) 1, an 27 .iadd 1, an 28 .iaload 1, an 29 (.bipush 15) 2, an 31 .imul 1, an 32 .isub 1, an 33 (.aload_n 1) 1, an 34 (.bipush 38) 2, an 36 .iaload 1, an 37 (.bipush 8) 2, an 39 .irem 1, an 40 (.iload_n 2) 1, an 41 .iadd 1, an 42 (.iconst 3) 1, an 43 .idiv 1, an 44 .iadd 1, an 45 .ireturn 1, an 46 (.aload_n 0) 1, al 47 (.getfield 46) 3 20 11 196 0, an 50 (.iconst 0) 1, an 51 (.aload_n 0) 1, al 52 (.getfield 13) 3 20 11 20 0, an 55 (.iload_n 2) 1, an 56 .iaload 1, an 57 .iastore 1, an 58 (.aload_n 0) 1, al 59 (.getfield 46) 3 20 11 196 0, an 62 (.iconst 1) 1, an 63 (.aload_n 1) 1, an 64 (.bipush 14) 2, an 66 (.iload_n 2) 1, an 67 .iadd 1, an 68 .iaload 1, an 69 .iastore 1, an 70 (.aload_n 0) 1, al 71 (.getfield 46) 3 20 11 196 0, an 74 (.iconst 2) 1, an 75 (.iload_n 2) 1, an 76 .iastore 1, an 77 (.aload_n 0) 1, al 78 (.getfield 46) 3 20 11 196 0, an 81 (.iconst 3) 1, an 82 (.aload_n 1) 1, an 83 (.bipush 22) 2, an 85 (.iload_n 2) 1, an 86 .iadd 1, an 87 .iaload 1, an 88 .iastore 1, an 89 (.aload_n 0) 1, al 90 (.getfield 46) 3 20 11 196 0, an 93 (.iconst 4) 1, an 94 (.aload_n 1) 1, an 95 (.bipush 38) 2, an 97 .iaload 1, an 98 (.bipush 8) 2, an 100 .irem 1, an 101 .iastore 1, an 102 (.aload_n 0) 1, al 103 (.getfield 46) 3 20 11 196 0, an 106 (.iconst 5) 1, an 107 (.iload_n 3) 1, an 108 .iastore 1, an 109 (.aload_n 0) 1, al 110 (.getfield 46) 3 20 11 196 0, an 113 (.bipush 6) 2, an 115 (.aload_n 1) 1, an 116 (.iload_n 3) 1, an 117 .iaload 1, an 118 (.bipush 10) 2, an 120 .idiv 1, an 121 .iastore 1, an 122 (.aload_n 0) 1, al 123 (.getfield 46) 3 20 11 196 0, an 126 (.bipush 7) 2, an 128 (.aload_n 1) 1, an 129 (.iconst 2) 1, an 130 (.iload_n 3) 1, an 131 .iadd 1, an 132 .iaload 1, an 133 .iastore 1, an 134 (.aload_n 0) 1, an 135 (.aload_n 0) 1, al 136 (.getfield 40) 3 20 11 164 0, an 139 (.aload_n 0) 1, al 140 (.getfield 189) 3 20 11 176 0, an 143 (.bipush 40) 2, al 145 (.invokevirtual 111) 3 2 184 11 0, an 148 (.aload_n 0) 1, an 149 (.iconst 1) 1, al 150 (.putfield 182) 3 20 11 185 0, an 153 (.aload_n 0) 1, an 154 (.iconst 0) 1, al 155 (.invokevirtual 176) 3 2 200 11 0, an 158 (.istore 4) 2, an 160 (.aload_n 0) 1, an 161 (.iconst 0) 1, al 162 (.putfield 182) 3 20 11 185 0, an 165 (.iload 4) 2, an 167 .ireturn 1]
-- 210: BluesAndGreensModel.quarter(II)I
def aC210 : List aN := [an 0 (.aload_n 0) 1, an 1 (.iconst 0) 1, al 2 (.putfield 77) 3 20 11 104 0, an 5 (.iload_n 1) 1, an 6 (.iconst 0) 1, an 7 (.aload_n 0) 1, al 8 (.getfield 90) 3 20 11 32 0, an 11 (.iconst 1) 1, an 12 .isub 1, al 13 (.invokestatic 86) 3 1 181 0 0, an 16 (.ifCond .eq 25) 3, an 19 (.iload_n 2) 1, an 20 (.iconst 0) 1, an 21 (.iconst 3) 1, al 22 (.invokestatic 86) 3 1 181 0 0, an 25 (.ifCond .eq 16) 3, an 28 (.aload_n 0) 1, al 29 (.getfield 19) 3 20 11 44 0, an 32 (.iconst 4) 1, an 33 (.iload_n 1) 1, an 34 .imul 1, an 35 (.iload_n 2) 1, an 36 .iadd 1, an 37 .iaload 1, an 38 (.goto 7) 3, an 41 (.aload_n 0) 1, al 42 (.invokevirtual 196) 3 2 207 11 0, an 45 .ireturn 1]
-- 211: BluesAndGreensModel.quarrel(II)I
def aC211 : List aN := [an 0 (.aload_n 0) 1, an 1 (.iconst 0) 1, al 2 (.putfield 77) 3 20 11 104 0, an 5 (.iload_n 1) 1, an 6 (.iconst 0) 1, an 7 (.aload_n 0) 1, al 8 (.getfield 164) 3 20 11 48 0, an 11 (.iconst 1) 1, an 12 .isub 1, al 13 (.invokestatic 86) 3 1 181 0 0, an 16 (.ifCond .eq 12) 3, an 19 (.iload_n 2) 1, an 20 (.iconst 0) 1, an 21 (.iconst 4) 1, al 22 (.invokestatic 86) 3 1 181 0 0, an 25 (.ifCond .ne 8) 3, an 28 (.aload_n 0) 1, al 29 (.invokevirtual 196) 3 2 207 11 0, an 32 .ireturn 1, an 33 (.iload_n 2) 1, an 34 (.iconst 4) 1, an 35 (.if_icmp .ge 16) 3, an 38 (.aload_n 0) 1, al 39 (.getfield 22) 3 20 11 60 0, an 42 (.iconst 4) 1, an 43 (.iload_n 1) 1, an 44 .imul 1, an 45 (.iload_n 2) 1, an 46 .iadd 1, an 47 .iaload 1, an 48 (.goto 12) 3, an 51 (.aload_n 0) 1, al 52 (.getfield 9) 3 20 11 4 0, an 55 (.bipush 30) 2, an 57 (.iload_n 1) 1, an 58 .iadd 1, an 59 .iaload 1, an 60 .ireturn 1]
-- 212: BluesAndGreensModel.club(II)I
def aC212 : List aN := [an 0 (.aload_n 0) 1, an 1 (.iconst 0) 1, al 2 (.putfield 77) 3 20 11 104 0, an 5 (.iload_n 1) 1, al 6 (.invokestatic 207) 3 1 213 0 0, an 9 (.ifCond .eq 12) 3, an 12 (.iload_n 2) 1, an 13 (.iconst 0) 1, an 14 (.iconst 5) 1, al 15 (.invokestatic 86) 3 1 181 0 0, an 18 (.ifCond .ne 8) 3, an 21 (.aload_n 0) 1, al 22 (.invokevirtual 196) 3 2 207 11 0, an 25 .ireturn 1, an 26 (.iload_n 2) 1, an 27 (.iconst 3) 1, an 28 (.if_icmp .ge 14) 3, an 31 (.aload_n 0) 1, al 32 (.getfield 9) 3 20 11 4 0, an 35 (.iconst 2) 1, an 36 (.iload_n 2) 1, an 37 .imul 1, an 38 (.iload_n 1) 1, an 39 .iadd 1, an 40 .iaload 1, an 41 .ireturn 1, an 42 (.iload_n 2) 1, an 43 (.iconst 3) 1, an 44 (.if_icmp .ne 15) 3, an 47 (.aload_n 0) 1, an 48 (.aload_n 0) 1, al 49 (.getfield 9) 3 20 11 4 0, an 52 (.iload_n 1) 1, al 53 (.invokevirtual 210) 3 2 214 11 0, an 56 (.goto 25) 3, an 59 (.iload_n 2) 1, an 60 (.iconst 4) 1, an 61 (.if_icmp .ne 11) 3, an 64 (.aload_n 0) 1, an 65 (.iload_n 1) 1, al 66 (.invokevirtual 213) 3 2 215 11 0, an 69 (.goto 12) 3, an 72 (.aload_n 0) 1, an 73 (.aload_n 0) 1, an 74 (.iload_n 1) 1, al 75 (.invokevirtual 213) 3 2 215 11 0, al 78 (.invokevirtual 216) 3 2 216 11 0, an 81 .ireturn 1]
-- 213: BluesAndGreensModel.isClub(I)Z
def aC213 : List aN := [an 0 (.iload_n 0) 1, an 1 (.iconst 0) 1, an 2 (.iconst 1) 1, al 3 (.invokestatic 86) 3 1 181 0 0, an 6 .ireturn 1]
-- 214: BluesAndGreensModel.driversOf([II)I
def aC214 : List aN := [an 0 (.iconst 0) 1, an 1 (.istore_n 3) 1, an 2 (.iconst 0) 1, an 3 (.istore 4) 2, an 5 (.iload 4) 2, an 7 (.aload_n 0) 1, al 8 (.getfield 83) 3 20 11 8 0, an 11 (.if_icmp .ge 31) 3, an 14 (.iload_n 3) 1, an 15 (.aload_n 1) 1, an 16 (.bipush 6) 2, an 18 (.iload 4) 2, an 20 .iadd 1, an 21 .iaload 1, an 22 (.iload_n 2) 1, an 23 (.if_icmp .ne 10) 3, an 26 (.iconst 1) 1, an 27 (.iload 4) 2, an 29 .ishl 1, an 30 (.goto 4) 3, an 33 (.iconst 0) 1, an 34 .ior 1, an 35 (.istore_n 3) 1, an 36 (.iinc 4 1) 3, an 39 (.goto (-34)) 3, an 42 (.iload_n 3) 1, an 43 .ireturn 1]
-- 215: BluesAndGreensModel.quartersOf(I)I
def aC215 : List aN := [an 0 (.iconst 0) 1, an 1 (.istore_n 2) 1, an 2 (.iconst 0) 1, an 3 (.istore_n 3) 1, an 4 (.iload_n 3) 1, an 5 (.aload_n 0) 1, al 6 (.getfield 90) 3 20 11 32 0, an 9 (.if_icmp .ge 33) 3, an 12 (.iload_n 2) 1, an 13 (.aload_n 0) 1, al 14 (.getfield 19) 3 20 11 44 0, an 17 (.iconst 4) 1, an 18 (.iload_n 3) 1, an 19 .imul 1, an 20 (.iconst 1) 1, an 21 .iadd 1, an 22 .iaload 1, an 23 (.iload_n 1) 1, an 24 (.if_icmp .ne 9) 3, an 27 (.iconst 1) 1, an 28 (.iload_n 3) 1, an 29 .ishl 1, an 30 (.goto 4) 3, an 33 (.iconst 0) 1, an 34 .ior 1, an 35 (.istore_n 2) 1, an 36 (.iinc 3 1) 3, an 39 (.goto (-35)) 3, an 42 (.iload_n 2) 1, an 43 .ireturn 1]
-- 216: BluesAndGreensModel.crowdsOf(I)I
def aC216 : List aN := [an 0 (.iconst 0) 1, an 1 (.istore_n 2) 1, an 2 (.iconst 0) 1, an 3 (.istore_n 3) 1, an 4 (.iload_n 3) 1, an 5 (.aload_n 0) 1, al 6 (.getfield 90) 3 20 11 32 0, an 9 (.if_icmp .ge 32) 3, an 12 (.iload_n 2) 1, an 13 (.iload_n 1) 1, an 14 (.iload_n 3) 1, al 15 (.invokestatic 203) 3 1 217 0 0, an 18 (.ifCond .eq 14) 3, an 21 (.aload_n 0) 1, al 22 (.getfield 19) 3 20 11 44 0, an 25 (.iconst 4) 1, an 26 (.iload_n 3) 1, an 27 .imul 1, an 28 .iaload 1, an 29 (.goto 4) 3, an 32 (.iconst 0) 1, an 33 .iadd 1, an 34 (.istore_n 2) 1, an 35 (.iinc 3 1) 3, an 38 (.goto (-34)) 3, an 41 (.iload_n 2) 1, an 42 .ireturn 1]
-- 217: BluesAndGreensModel.has(II)Z
def aC217 : List aN := [an 0 (.iload_n 0) 1, an 1 (.iload_n 1) 1, an 2 .ishr 1, an 3 (.iconst 1) 1, an 4 .iand 1, an 5 (.iconst 1) 1, an 6 (.if_icmp .ne 7) 3, an 9 (.iconst 1) 1, an 10 (.goto 4) 3, an 13 (.iconst 0) 1, an 14 .ireturn 1]
-- 218: BluesAndGreensModel.limit(I)I
def aC218 : List aN := [an 0 (.aload_n 0) 1, an 1 (.iconst 0) 1, al 2 (.putfield 77) 3 20 11 104 0, an 5 (.iload_n 1) 1, an 6 (.iconst 1) 1, an 7 (.bipush 99) 2, al 9 (.invokestatic 86) 3 1 181 0 0, an 12 (.ifCond .ne 5) 3, an 15 (.iconst (-1)) 1, an 16 .ireturn 1, an 17 (.aload_n 0) 1, al 18 (.getfield 25) 3 20 11 64 0, an 21 (.istore_n 2) 1, an 22 (.aload_n 0) 1, an 23 (.iload_n 1) 1, al 24 (.putfield 25) 3 20 11 64 0, an 27 (.iload_n 2) 1, an 28 .ireturn 1]
-- 219: BluesAndGreensModel.sheet(IIII)I
def aC219 : List aN := [an 0 (.aload_n 0) 1, an 1 (.iconst 0) 1, al 2 (.putfield 77) 3 20 11 104 0, an 5 (.iload_n 1) 1, an 6 (.iconst 0) 1, an 7 (.iconst 3) 1, al 8 (.invokestatic 86) 3 1 181 0 0, an 11 (.ifCond .eq 9) 3, an 14 (.iload_n 2) 1, an 15 (.bipush 8) 2, an 17 (.if_icmp .le 5) 3, an 20 (.iconst (-1)) 1, an 21 .ireturn 1, an 22 (.iload_n 1) 1, an 23 (.iconst 3) 1, an 24 (.if_icmp .ge 10) 3, an 27 (.iload_n 2) 1, an 28 (.ifCond .ge 6) 3, an 31 (.bipush (-2)) 2, an 33 .ireturn 1, an 34 (.iconst 0) 1, an 35 (.istore 5) 2, an 37 (.iload_n 3) 1, an 38 (.istore 6) 2, an 40 (.iconst 0) 1, an 41 (.istore 7) 2, an 43 (.iload 7) 2, an 45 (.aload_n 0) 1, al 46 (.getfield 83) 3 20 11 8 0, an 49 (.if_icmp .ge 86) 3, an 52 (.iload_n 1) 1, an 53 (.ifCond .ne 9) 3, an 56 (.iload 6) 2, an 58 .i2b 1, an 59 (.goto 16) 3, an 62 (.iload_n 1) 1, an 63 (.iconst 1) 1, an 64 (.if_icmp .ne 9) 3, an 67 (.iload 6) 2, an 69 .i2s 1, an 70 (.goto 5) 3, an 73 (.iload 6) 2, an 75 (.istore 8) 2, an 77 (.aload_n 0) 1, al 78 (.getfield 16) 3 20 11 28 0, an 81 (.iload 7) 2, an 83 (.iload_n 1) 1, an 84 (.iconst 3) 1, an 85 (.if_icmp .eq 9) 3, an 88 (.iload 7) 2, an 90 (.iload_n 2) 1, an 91 (.if_icmp .lt 7) 3, an 94 (.iconst 0) 1, an 95 (.goto 14) 3, an 98 (.iconst 0) 1, an 99 (.bipush 99) 2, an 101 (.iload 8) 2, al 103 (.invokestatic 219) 3 18 0 0 0, al 106 (.invokestatic 225) 3 17 0 0 0, an 109 .iastore 1, an 110 (.iload 5) 2, an 112 (.aload_n 0) 1, al 113 (.getfield 16) 3 20 11 28 0, an 116 (.iload 7) 2, an 118 .iaload 1, an 119 .iadd 1, an 120 (.istore 5) 2, an 122 (.iload 6) 2, an 124 (.iload 4) 2, an 126 .iadd 1, an 127 (.istore 6) 2, an 129 (.iinc 7 1) 3, an 132 (.goto (-89)) 3, an 135 (.iload_n 1) 1, an 136 (.iconst 3) 1, an 137 (.if_icmp .ne 8) 3, an 140 (.bipush (-3)) 2, an 142 (.goto 5) 3, an 145 (.iload 5) 2, an 147 .ireturn 1]
-- 220: BluesAndGreensModel.race(I)I
def aC220 : List aN := [an 0 (.aload_n 0) 1, an 1 (.iconst 0) 1, al 2 (.putfield 77) 3 20 11 104 0, an 5 (.aload_n 0) 1, al 6 (.getfield 83) 3 20 11 8 0, an 9 (.ifCond .ne 6) 3, an 12 (.bipush (-2)) 2, an 14 .ireturn 1, an 15 (.iload_n 1) 1, an 16 (.iconst 0) 1, an 17 (.bipush 60) 2, al 19 (.invokestatic 86) 3 1 181 0 0, an 22 (.ifCond .ne 5) 3, an 25 (.iconst (-1)) 1, an 26 .ireturn 1, an 27 (.iload_n 1) 1, an 28 (.ifCond .le 11) 3, an 31 (.aload_n 0) 1, an 32 (.aload_n 0) 1, al 33 (.getfield 9) 3 20 11 4 0, al 36 (.invokevirtual 259) 3 2 221 11 0, an 39 (.aload_n 0) 1, an 40 (.aload_n 0) 1, al 41 (.getfield 9) 3 20 11 4 0, an 44 (.iload_n 1) 1, al 45 (.invokevirtual 263) 3 2 223 11 0, an 48 (.aload_n 0) 1, an 49 (.iconst 0) 1, al 50 (.putfield 80) 3 20 11 96 0, an 53 (.aload_n 0) 1, an 54 (.aload_n 0) 1, al 55 (.getfield 246) 3 20 11 240 0, an 58 .i2l 1, al 59 (.invokevirtual 267) 3 2 229 11 0, an 62 (.aload_n 0) 1, an 63 (.aload_n 0) 1, al 64 (.getfield 249) 3 20 11 248 0, an 67 .i2l 1, al 68 (.invokevirtual 267) 3 2 229 11 0, an 71 (.aload_n 0) 1, al 72 (.getfield 243) 3 20 11 232 0, an 75 .ireturn 1]
-- 221: BluesAndGreensModel.remember([I)V
def aC221 : List aN := [an 0 (.aload_n 0) 1, al 1 (.getfield 139) 3 20 11 208 0, an 4 (.bipush 12) 2, an 6 (.if_icmp .ne 43) 3, an 9 (.iconst 0) 1, an 10 (.istore_n 2) 1, an 11 (.iload_n 2) 1, an 12 (.sipush 429) 3, an 15 (.if_icmp .ge 24) 3, an 18 (.aload_n 0) 1, al 19 (.getfield 49) 3 20 11 204 0, an 22 (.iload_n 2) 1, an 23 (.aload_n 0) 1, al 24 (.getfield 49) 3 20 11 204 0, an 27 (.iload_n 2) 1, an 28 (.bipush 39) 2, an 30 .iadd 1, an 31 .iaload 1, an 32 .iastore 1, an 33 (.iinc 2 1) 3, an 36 (.goto (-25)) 3, an 39 (.aload_n 0) 1, an 40 .dup 1, al 41 (.getfield 139) 3 20 11 208 0, an 44 (.iconst 1) 1, an 45 .isub 1, al 46 (.putfield 139) 3 20 11 208 0, an 49 (.aload_n 1) 1, an 50 (.aload_n 0) 1, al 51 (.getfield 49) 3 20 11 204 0, an 54 (.bipush 39) 2, an 56 (.aload_n 0) 1, al 57 (.getfield 139) 3 20 11 208 0, an 60 .imul 1, al 61 (.invokestatic 228) 3 1 222 0 0, an 64 (.aload_n 0) 1, an 65 .dup 1, al 66 (.getfield 139) 3 20 11 208 0, an 69 (.iconst 1) 1, an 70 .iadd 1, al 71 (.putfield 139) 3 20 11 208 0, an 74 .return_ 1]
-- 222: BluesAndGreensModel.lay([I[II)V
def aC222 : List aN := [an 0 (.iconst 0) 1, an 1 (.istore_n 3) 1, an 2 (.iload_n 3) 1, an 3 (.bipush 39) 2, an 5 (.if_icmp .ge 17) 3, an 8 (.aload_n 1) 1, an 9 (.iload_n 2) 1, an 10 (.iload_n 3) 1, an 11 .iadd 1, an 12 (.aload_n 0) 1, an 13 (.iload_n 3) 1, an 14 .iaload 1, an 15 .iastore 1, an 16 (.iinc 3 1) 3, an 19 (.goto (-17)) 3, an 22 .return_ 1]
-- 223: BluesAndGreensModel.goRaces([II)V
def aC223 : List aN := [an 0 (.aload_n 0) 1, an 1 (.iconst 0) 1, al 2 (.putfield 243) 3 20 11 232 0, an 5 (.aload_n 0) 1, an 6 (.iconst (-1)) 1, al 7 (.putfield 246) 3 20 11 240 0, an 10 (.aload_n 0) 1, an 11 (.iconst 0) 1, al 12 (.putfield 249) 3 20 11 248 0, an 15 (.iconst 0) 1, an 16 (.istore_n 3) 1, an 17 (.iload_n 3) 1, an 18 (.iload_n 2) 1, an 19 (.if_icmp .ge 66) 3, an 22 (.aload_n 0) 1, an 23 (.aload_n 0) 1, an 24 (.aload_n 1) 1, al 25 (.invokevirtual 252) 3 2 224 11 0, al 28 (.putfield 246) 3 20 11 240 0, an 31 (.aload_n 0) 1, an 32 .dup 1, al 33 (.getfield 243) 3 20 11 232 0, an 36 (.aload_n 1) 1, an 37 (.bipush 6) 2, an 39 (.aload_n 0) 1, al 40 (.getfield 246) 3 20 11 240 0, an 43 .iadd 1, an 44 .iaload 1, an 45 (.ifCond .ne 7) 3, an 48 (.iconst 1) 1, an 49 (.goto 4) 3, an 52 (.iconst 0) 1, an 53 .iadd 1, al 54 (.putfield 243) 3 20 11 232 0, an 57 (.aload_n 0) 1, an 58 .dup 1, al 59 (.getfield 249) 3 20 11 248 0, an 62 (.aload_n 0) 1, an 63 (.aload_n 1) 1, al 64 (.invokevirtual 255) 3 2 228 11 0, an 67 (.ifCond .eq 7) 3, an 70 (.iconst 1) 1, an 71 (.goto 4) 3, an 74 (.iconst 0) 1, an 75 .iadd 1, al 76 (.putfield 249) 3 20 11 248 0, an 79 (.iinc 3 1) 3, an 82 (.goto (-65)) 3, an 85 .return_ 1]
-- 224: BluesAndGreensModel.goRace([I)I
def aC224 : List aN := [an 0 (.aload_n 0) 1, an 1 (.aload_n 1) 1, al 2 (.invokevirtual 232) 3 2 225 11 0, an 5 (.istore_n 2) 1, an 6 (.aload_n 1) 1, an 7 (.bipush 6) 2, an 9 (.iload_n 2) 1, an 10 .iadd 1, an 11 .iaload 1, an 12 (.istore_n 3) 1, an 13 (.aload_n 1) 1, an 14 (.bipush 22) 2, an 16 (.iload_n 2) 1, an 17 .iadd 1, an 18 .dup2 1, an 19 .iaload 1, an 20 (.iconst 1) 1, an 21 .iadd 1, an 22 .iastore 1, an 23 (.aload_n 1) 1, an 24 (.iconst 4) 1, an 25 (.iload_n 3) 1, an 26 .iadd 1, an 27 .dup2 1, an 28 .iaload 1, an 29 (.iconst 1) 1, an 30 .iadd 1, an 31 .iastore 1, an 32 (.aload_n 1) 1, an 33 (.iload_n 3) 1, an 34 (.bipush 10) 2, al 36 (.invokestatic 236) 3 1 226 0 0, an 39 (.aload_n 1) 1, an 40 (.iconst 1) 1, an 41 (.iload_n 3) 1, an 42 .isub 1, an 43 (.iconst 3) 1, al 44 (.invokestatic 240) 3 1 227 0 0, an 47 (.aload_n 1) 1, an 48 (.iload_n 3) 1, an 49 (.iconst (-1)) 1, al 50 (.invokestatic 240) 3 1 227 0 0, an 53 (.aload_n 1) 1, an 54 (.bipush 38) 2, an 56 .dup2 1, an 57 .iaload 1, an 58 (.iconst 1) 1, an 59 .iadd 1, an 60 .iastore 1, an 61 (.iload_n 2) 1, an 62 .ireturn 1]
-- 225: BluesAndGreensModel.winner([I)I
def aC225 : List aN := [an 0 (.iconst 0) 1, an 1 (.istore_n 2) 1, an 2 (.iconst 1) 1, an 3 (.istore_n 3) 1, an 4 (.iload_n 3) 1, an 5 (.aload_n 0) 1, al 6 (.getfield 83) 3 20 11 8 0, an 9 (.if_icmp .ge 26) 3, an 12 (.aload_n 0) 1, an 13 (.aload_n 1) 1, an 14 (.iload_n 3) 1, al 15 (.invokevirtual 199) 3 2 209 11 0, an 18 (.aload_n 0) 1, an 19 (.aload_n 1) 1, an 20 (.iload_n 2) 1, al 21 (.invokevirtual 199) 3 2 209 11 0, an 24 (.if_icmp .le 5) 3, an 27 (.iload_n 3) 1, an 28 (.istore_n 2) 1, an 29 (.iinc 3 1) 3, an 32 (.goto (-28)) 3, an 35 (.iload_n 2) 1, an 36 .ireturn 1]
-- 226: BluesAndGreensModel.gets([III)V
def aC226 : List aN := [an 0 (.aload_n 0) 1, an 1 (.iload_n 1) 1, an 2 (.sipush 9999) 3, an 5 (.aload_n 0) 1, an 6 (.iload_n 1) 1, an 7 .iaload 1, an 8 (.iload_n 2) 1, an 9 .iadd 1, al 10 (.invokestatic 219) 3 18 0 0 0, an 13 .iastore 1, an 14 .return_ 1]
-- 227: BluesAndGreensModel.angers([III)V
def aC227 : List aN := [an 0 (.aload_n 0) 1, an 1 (.iconst 2) 1, an 2 (.iload_n 1) 1, an 3 .iadd 1, an 4 (.iconst 0) 1, an 5 (.sipush 999) 3, an 8 (.aload_n 0) 1, an 9 (.iconst 2) 1, an 10 (.iload_n 1) 1, an 11 .iadd 1, an 12 .iaload 1, an 13 (.iload_n 2) 1, an 14 .iadd 1, al 15 (.invokestatic 219) 3 18 0 0 0, al 18 (.invokestatic 225) 3 17 0 0 0, an 21 .iastore 1, an 22 .return_ 1]
-- 228: BluesAndGreensModel.doJoin([I)Z
def aC228 : List aN := [an 0 (.aload_n 1) 1, an 1 (.iconst 2) 1, an 2 .iaload 1, an 3 (.aload_n 0) 1, al 4 (.getfield 25) 3 20 11 64 0, an 7 (.if_icmp .lt 17) 3, an 10 (.aload_n 1) 1, an 11 (.iconst 3) 1, an 12 .iaload 1, an 13 (.aload_n 0) 1, al 14 (.getfield 25) 3 20 11 64 0, an 17 (.if_icmp .lt 7) 3, an 20 (.iconst 1) 1, an 21 (.goto 4) 3, an 24 (.iconst 0) 1, an 25 .ireturn 1]
-- 229: BluesAndGreensModel.tell(J)V
def aC229 : List aN := [an 0 (.aload_n 0) 1, al 1 (.getfield 33) 3 20 11 92 0, an 4 (.aload_n 0) 1, al 5 (.getfield 80) 3 20 11 96 0, an 8 (.lload_n 1) 1, an 9 .lastore 1, an 10 (.aload_n 0) 1, an 11 .dup 1, al 12 (.getfield 80) 3 20 11 96 0, an 15 (.iconst 1) 1, an 16 .iadd 1, al 17 (.putfield 80) 3 20 11 96 0, an 20 .return_ 1]
-- 230: BluesAndGreensModel.buy(II)I
def aC230 : List aN := [an 0 (.aload_n 0) 1, an 1 (.iconst 0) 1, al 2 (.putfield 77) 3 20 11 104 0, an 5 (.aload_n 0) 1, an 6 (.aload_n 0) 1, al 7 (.getfield 9) 3 20 11 4 0, an 10 (.iload_n 1) 1, an 11 (.iload_n 2) 1, al 12 (.invokevirtual 271) 3 2 231 11 0, an 15 (.istore_n 3) 1, an 16 (.iload_n 3) 1, an 17 (.ifCond .ge 5) 3, an 20 (.iload_n 3) 1, an 21 .ireturn 1, an 22 (.aload_n 0) 1, an 23 (.aload_n 0) 1, al 24 (.getfield 9) 3 20 11 4 0, al 27 (.invokevirtual 259) 3 2 221 11 0, an 30 (.aload_n 0) 1, an 31 (.aload_n 0) 1, al 32 (.getfield 9) 3 20 11 4 0, an 35 (.iload_n 1) 1, an 36 (.iload_n 2) 1, al 37 (.invokevirtual 275) 3 2 232 11 0, an 40 (.aload_n 0) 1, al 41 (.getfield 9) 3 20 11 4 0, an 44 (.iload_n 1) 1, an 45 .iaload 1, an 46 .ireturn 1]
-- 231: BluesAndGreensModel.refusesBuy([III)I
def aC231 : List aN := [an 0 (.iload_n 2) 1, al 1 (.invokestatic 207) 3 1 213 0 0, an 4 (.ifCond .eq 11) 3, an 7 (.aload_n 0) 1, an 8 (.iload_n 3) 1, al 9 (.invokevirtual 192) 3 2 206 11 0, an 12 (.ifCond .ne 5) 3, an 15 (.iconst (-1)) 1, an 16 .ireturn 1, an 17 (.aload_n 1) 1, an 18 (.bipush 6) 2, an 20 (.iload_n 3) 1, an 21 .iadd 1, an 22 .iaload 1, an 23 (.iload_n 2) 1, an 24 (.if_icmp .ne 6) 3, an 27 (.bipush (-2)) 2, an 29 .ireturn 1, an 30 (.aload_n 1) 1, an 31 (.iload_n 2) 1, an 32 .iaload 1, an 33 (.aload_n 0) 1, al 34 (.getfield 16) 3 20 11 28 0, an 37 (.iload_n 3) 1, an 38 .iaload 1, an 39 (.if_icmp .ge 8) 3, an 42 (.bipush (-3)) 2, an 44 (.goto 4) 3, an 47 (.iconst 0) 1, an 48 .ireturn 1]
-- 232: BluesAndGreensModel.goBuy([III)V
def aC232 : List aN := [an 0 (.aload_n 1) 1, an 1 (.iload_n 2) 1, an 2 .dup2 1, an 3 .iaload 1, an 4 (.aload_n 0) 1, al 5 (.getfield 16) 3 20 11 28 0, an 8 (.iload_n 3) 1, an 9 .iaload 1, an 10 .isub 1, an 11 .iastore 1, an 12 (.aload_n 1) 1, an 13 (.iconst 1) 1, an 14 (.iload_n 2) 1, an 15 .isub 1, an 16 (.aload_n 0) 1, al 17 (.getfield 16) 3 20 11 28 0, an 20 (.iload_n 3) 1, an 21 .iaload 1, al 22 (.invokestatic 236) 3 1 226 0 0, an 25 (.aload_n 1) 1, an 26 (.bipush 6) 2, an 28 (.iload_n 3) 1, an 29 .iadd 1, an 30 (.iload_n 2) 1, an 31 .iastore 1, an 32 .return_ 1]
-- 233: BluesAndGreensModel.curse(II)I
def aC233 : List aN := [an 0 (.aload_n 0) 1, an 1 (.iconst 0) 1, al 2 (.putfield 77) 3 20 11 104 0, an 5 (.aload_n 0) 1, an 6 (.iload_n 1) 1, an 7 (.iload_n 2) 1, al 8 (.invokevirtual 278) 3 2 234 11 0, an 11 (.istore_n 3) 1, an 12 (.iload_n 3) 1, an 13 (.ifCond .ge 5) 3, an 16 (.iload_n 3) 1, an 17 .ireturn 1, an 18 (.aload_n 0) 1, an 19 (.aload_n 0) 1, al 20 (.getfield 9) 3 20 11 4 0, al 23 (.invokevirtual 259) 3 2 221 11 0, an 26 (.aload_n 0) 1, al 27 (.getfield 9) 3 20 11 4 0, an 30 (.iload_n 1) 1, an 31 (.iload_n 2) 1, al 32 (.invokestatic 281) 3 1 235 0 0, an 35 (.aload_n 0) 1, al 36 (.getfield 9) 3 20 11 4 0, an 39 (.iload_n 1) 1, an 40 .iaload 1, an 41 .ireturn 1]
-- 234: BluesAndGreensModel.refusesCurse(II)I
def aC234 : List aN := [an 0 (.iload_n 1) 1, al 1 (.invokestatic 207) 3 1 213 0 0, an 4 (.ifCond .eq 11) 3, an 7 (.aload_n 0) 1, an 8 (.iload_n 2) 1, al 9 (.invokevirtual 192) 3 2 206 11 0, an 12 (.ifCond .ne 5) 3, an 15 (.iconst (-1)) 1, an 16 .ireturn 1, an 17 (.aload_n 0) 1, al 18 (.getfield 9) 3 20 11 4 0, an 21 (.bipush 6) 2, an 23 (.iload_n 2) 1, an 24 .iadd 1, an 25 .iaload 1, an 26 (.iload_n 1) 1, an 27 (.if_icmp .ne 6) 3, an 30 (.bipush (-2)) 2, an 32 .ireturn 1, an 33 (.aload_n 0) 1, al 34 (.getfield 9) 3 20 11 4 0, an 37 (.bipush 14) 2, an 39 (.iload_n 2) 1, an 40 .iadd 1, an 41 .iaload 1, an 42 (.iconst 1) 1, an 43 (.if_icmp .ne 6) 3, an 46 (.bipush (-3)) 2, an 48 .ireturn 1, an 49 (.aload_n 0) 1, al 50 (.getfield 9) 3 20 11 4 0, an 53 (.iload_n 1) 1, an 54 .iaload 1, an 55 (.iconst 5) 1, an 56 (.if_icmp .ge 8) 3, an 59 (.bipush (-4)) 2, an 61 (.goto 4) 3, an 64 (.iconst 0) 1, an 65 .ireturn 1]
-- 235: BluesAndGreensModel.goCurse([III)V
def aC235 : List aN := [an 0 (.aload_n 0) 1, an 1 (.iload_n 1) 1, an 2 .dup2 1, an 3 .iaload 1, an 4 (.iconst 5) 1, an 5 .isub 1, an 6 .iastore 1, an 7 (.aload_n 0) 1, an 8 (.bipush 14) 2, an 10 (.iload_n 2) 1, an 11 .iadd 1, an 12 (.iconst 1) 1, an 13 .iastore 1, an 14 .return_ 1]
-- 236: BluesAndGreensModel.dig(I)I
def aC236 : List aN := [an 0 (.aload_n 0) 1, an 1 (.iconst 0) 1, al 2 (.putfield 77) 3 20 11 104 0, an 5 (.aload_n 0) 1, an 6 (.iload_n 1) 1, al 7 (.invokevirtual 284) 3 2 237 11 0, an 10 (.istore_n 2) 1, an 11 (.iload_n 2) 1, an 12 (.ifCond .ge 5) 3, an 15 (.iload_n 2) 1, an 16 .ireturn 1, an 17 (.aload_n 0) 1, an 18 (.aload_n 0) 1, al 19 (.getfield 9) 3 20 11 4 0, al 22 (.invokevirtual 259) 3 2 221 11 0, an 25 (.aload_n 0) 1, an 26 (.iload_n 1) 1, al 27 (.invokevirtual 287) 3 2 238 11 0, an 30 (.aload_n 0) 1, al 31 (.getfield 9) 3 20 11 4 0, an 34 (.aload_n 0) 1, al 35 (.getfield 9) 3 20 11 4 0, an 38 (.bipush 6) 2, an 40 (.iload_n 1) 1, an 41 .iadd 1, an 42 .iaload 1, an 43 .iaload 1, an 44 .ireturn 1]
-- 237: BluesAndGreensModel.refusesDig(I)I
def aC237 : List aN := [an 0 (.aload_n 0) 1, an 1 (.iload_n 1) 1, al 2 (.invokevirtual 192) 3 2 206 11 0, an 5 (.ifCond .ne 5) 3, an 8 (.iconst (-1)) 1, an 9 .ireturn 1, an 10 (.aload_n 0) 1, al 11 (.getfield 9) 3 20 11 4 0, an 14 (.bipush 14) 2, an 16 (.iload_n 1) 1, an 17 .iadd 1, an 18 .iaload 1, an 19 (.ifCond .ne 6) 3, an 22 (.bipush (-2)) 2, an 24 .ireturn 1, an 25 (.aload_n 0) 1, al 26 (.getfield 9) 3 20 11 4 0, an 29 (.aload_n 0) 1, al 30 (.getfield 9) 3 20 11 4 0, an 33 (.bipush 6) 2, an 35 (.iload_n 1) 1, an 36 .iadd 1, an 37 .iaload 1, an 38 .iaload 1, an 39 (.iconst 3) 1, an 40 (.if_icmp .ge 8) 3, an 43 (.bipush (-3)) 2, an 45 (.goto 4) 3, an 48 (.iconst 0) 1, an 49 .ireturn 1]
-- 238: BluesAndGreensModel.goDig(I)V
def aC238 : List aN := [an 0 (.aload_n 0) 1, al 1 (.getfield 9) 3 20 11 4 0, an 4 (.aload_n 0) 1, al 5 (.getfield 9) 3 20 11 4 0, an 8 (.bipush 6) 2, an 10 (.iload_n 1) 1, an 11 .iadd 1, an 12 .iaload 1, an 13 .dup2 1, an 14 .iaload 1, an 15 (.iconst 3) 1, an 16 .isub 1, an 17 .iastore 1, an 18 (.aload_n 0) 1, al 19 (.getfield 9) 3 20 11 4 0, an 22 (.bipush 14) 2, an 24 (.iload_n 1) 1, an 25 .iadd 1, an 26 (.iconst 0) 1, an 27 .iastore 1, an 28 .return_ 1]
-- 239: BluesAndGreensModel.grain(II)I
def aC239 : List aN := [an 0 (.aload_n 0) 1, an 1 (.iconst 0) 1, al 2 (.putfield 77) 3 20 11 104 0, an 5 (.iload_n 1) 1, al 6 (.invokestatic 207) 3 1 213 0 0, an 9 (.ifCond .eq 13) 3, an 12 (.iload_n 2) 1, an 13 (.iconst 1) 1, an 14 (.bipush 99) 2, al 16 (.invokestatic 86) 3 1 181 0 0, an 19 (.ifCond .ne 5) 3, an 22 (.iconst (-1)) 1, an 23 .ireturn 1, an 24 (.aload_n 0) 1, an 25 (.aload_n 0) 1, al 26 (.getfield 9) 3 20 11 4 0, al 29 (.invokevirtual 259) 3 2 221 11 0, an 32 (.aload_n 0) 1, al 33 (.getfield 9) 3 20 11 4 0, an 36 (.iload_n 1) 1, an 37 (.iload_n 2) 1, an 38 .ineg 1, al 39 (.invokestatic 240) 3 1 227 0 0, an 42 (.aload_n 0) 1, al 43 (.getfield 9) 3 20 11 4 0, an 46 (.iconst 2) 1, an 47 (.iload_n 1) 1, an 48 .iadd 1, an 49 .iaload 1, an 50 .ireturn 1]
-- 240: BluesAndGreensModel.show(II)I
def aC240 : List aN := [an 0 (.aload_n 0) 1, an 1 (.iconst 0) 1, al 2 (.putfield 77) 3 20 11 104 0, an 5 (.aload_n 0) 1, an 6 (.iload_n 1) 1, an 7 (.iload_n 2) 1, al 8 (.invokevirtual 290) 3 2 241 11 0, an 11 (.istore_n 3) 1, an 12 (.iload_n 3) 1, an 13 (.ifCond .ge 5) 3, an 16 (.iload_n 3) 1, an 17 .ireturn 1, an 18 (.aload_n 0) 1, an 19 (.aload_n 0) 1, al 20 (.getfield 9) 3 20 11 4 0, al 23 (.invokevirtual 259) 3 2 221 11 0, an 26 (.aload_n 0) 1, an 27 (.aload_n 0) 1, al 28 (.getfield 9) 3 20 11 4 0, an 31 (.iload_n 1) 1, an 32 (.iload_n 2) 1, al 33 (.invokevirtual 293) 3 2 242 11 0, an 36 (.aload_n 0) 1, an 37 (.aload_n 0) 1, al 38 (.getfield 9) 3 20 11 4 0, al 41 (.invokevirtual 255) 3 2 228 11 0, an 44 (.ifCond .eq 7) 3, an 47 (.iconst 1) 1, an 48 (.goto 4) 3, an 51 (.iconst 0) 1, an 52 .ireturn 1]
-- 241: BluesAndGreensModel.refusesShow(II)I
def aC241 : List aN := [an 0 (.iload_n 1) 1, an 1 (.iconst 0) 1, an 2 (.aload_n 0) 1, al 3 (.getfield 164) 3 20 11 48 0, an 6 (.iconst 1) 1, an 7 .isub 1, al 8 (.invokestatic 86) 3 1 181 0 0, an 11 (.ifCond .eq 12) 3, an 14 (.iload_n 2) 1, an 15 (.iconst 0) 1, an 16 (.iconst 1) 1, al 17 (.invokestatic 86) 3 1 181 0 0, an 20 (.ifCond .ne 5) 3, an 23 (.iconst (-1)) 1, an 24 .ireturn 1, an 25 (.aload_n 0) 1, al 26 (.getfield 9) 3 20 11 4 0, an 29 (.bipush 30) 2, an 31 (.iload_n 1) 1, an 32 .iadd 1, an 33 .iaload 1, an 34 (.iconst (-1)) 1, an 35 (.if_icmp .ne 7) 3, an 38 (.iconst 0) 1, an 39 (.goto 5) 3, an 42 (.bipush (-2)) 2, an 44 .ireturn 1]
-- 242: BluesAndGreensModel.goShow([III)V
def aC242 : List aN := [an 0 (.aload_n 1) 1, an 1 (.bipush 30) 2, an 3 (.iload_n 2) 1, an 4 .iadd 1, an 5 (.iload_n 3) 1, an 6 .iastore 1, an 7 (.aload_n 1) 1, an 8 (.iconst 0) 1, an 9 (.aload_n 0) 1, al 10 (.getfield 22) 3 20 11 60 0, an 13 (.iconst 4) 1, an 14 (.iload_n 2) 1, an 15 .imul 1, an 16 (.iload_n 3) 1, an 17 .iadd 1, an 18 .iaload 1, al 19 (.invokestatic 240) 3 1 227 0 0, an 22 (.aload_n 1) 1, an 23 (.iconst 1) 1, an 24 (.aload_n 0) 1, al 25 (.getfield 22) 3 20 11 60 0, an 28 (.iconst 4) 1, an 29 (.iload_n 2) 1, an 30 .imul 1, an 31 (.iconst 2) 1, an 32 .iadd 1, an 33 (.iload_n 3) 1, an 34 .iadd 1, an 35 .iaload 1, al 36 (.invokestatic 240) 3 1 227 0 0, an 39 .return_ 1]
-- 243: BluesAndGreensModel.season()I
def aC243 : List aN := [an 0 (.aload_n 0) 1, an 1 (.iconst 0) 1, al 2 (.putfield 77) 3 20 11 104 0, an 5 (.aload_n 0) 1, an 6 (.bipush 60) 2, al 8 (.invokevirtual 145) 3 2 183 11 0, an 11 (.iconst 0) 1, an 12 (.istore_n 1) 1, an 13 (.aload_n 0) 1, al 14 (.invokevirtual 115) 3 2 185 11 0, an 17 (.ifCond .eq 27) 3, an 20 (.aload_n 0) 1, al 21 (.getfield 105) 3 20 11 136 0, an 24 (.aload_n 0) 1, al 25 (.getfield 99) 3 20 11 120 0, an 28 (.if_icmp .ge 16) 3, an 31 (.aload_n 0) 1, an 32 (.iconst 3) 1, an 33 (.iload_n 1) 1, an 34 .imul 1, al 35 (.invokevirtual 296) 3 2 244 11 0, an 38 (.iinc 1 1) 3, an 41 (.goto (-28)) 3, an 44 (.aload_n 0) 1, al 45 (.invokevirtual 155) 3 2 193 11 0, an 48 (.ifCond .ne 10) 3, an 51 (.iconst (-1)) 1, an 52 (.aload_n 0) 1, al 53 (.getfield 108) 3 20 11 144 0, an 56 .isub 1, an 57 .ireturn 1, an 58 (.aload_n 0) 1, al 59 (.getfield 9) 3 20 11 4 0, an 62 (.aload_n 0) 1, al 63 (.getfield 52) 3 20 11 220 0, an 66 (.iconst 0) 1, al 67 (.invokestatic 228) 3 1 222 0 0, an 70 (.iconst 0) 1, an 71 (.istore_n 2) 1, an 72 (.iload_n 2) 1, an 73 (.iload_n 1) 1, an 74 (.if_icmp .ge 44) 3, an 77 (.aload_n 0) 1, an 78 (.aload_n 0) 1, al 79 (.getfield 58) 3 20 11 260 0, an 82 (.iconst 3) 1, an 83 (.iload_n 2) 1, an 84 .imul 1, an 85 .iaload 1, an 86 (.aload_n 0) 1, al 87 (.getfield 58) 3 20 11 260 0, an 90 (.iconst 3) 1, an 91 (.iload_n 2) 1, an 92 .imul 1, an 93 (.iconst 1) 1, an 94 .iadd 1, an 95 .iaload 1, an 96 (.aload_n 0) 1, al 97 (.getfield 58) 3 20 11 260 0, an 100 (.iconst 3) 1, an 101 (.iload_n 2) 1, an 102 .imul 1, an 103 (.iconst 2) 1, an 104 .iadd 1, an 105 .iaload 1, al 106 (.invokevirtual 299) 3 2 245 11 0, an 109 (.ifCond .eq 9) 3, an 112 (.iinc 2 1) 3, an 115 (.goto (-43)) 3, an 118 (.iload_n 2) 1, an 119 (.ifCond .le 11) 3, an 122 (.aload_n 0) 1, an 123 (.aload_n 0) 1, al 124 (.getfield 52) 3 20 11 220 0, al 127 (.invokevirtual 259) 3 2 221 11 0, an 130 (.aload_n 0) 1, an 131 (.iconst 0) 1, al 132 (.putfield 80) 3 20 11 96 0, an 135 (.aload_n 0) 1, an 136 (.iload_n 2) 1, an 137 (.iload_n 1) 1, an 138 (.if_icmp .ge 7) 3, an 141 (.lconst 1) 1, an 142 (.goto 4) 3, an 145 (.lconst 0) 1, al 146 (.invokevirtual 267) 3 2 229 11 0, an 149 (.aload_n 0) 1, an 150 (.aload_n 0) 1, an 151 (.aload_n 0) 1, al 152 (.getfield 9) 3 20 11 4 0, al 155 (.invokevirtual 255) 3 2 228 11 0, an 158 (.ifCond .eq 7) 3, an 161 (.lconst 1) 1, an 162 (.goto 4) 3, an 165 (.lconst 0) 1, al 166 (.invokevirtual 267) 3 2 229 11 0, an 169 (.iload_n 2) 1, an 170 .ireturn 1]
-- 244: BluesAndGreensModel.readAct(I)V
def aC244 : List aN := [an 0 (.aload_n 0) 1, al 1 (.invokevirtual 119) 3 2 188 11 0, an 4 (.istore_n 2) 1, an 5 (.iload_n 2) 1, an 6 (.bipush 98) 2, an 8 (.if_icmp .eq 15) 3, an 11 (.iload_n 2) 1, an 12 (.bipush 99) 2, an 14 (.if_icmp .eq 9) 3, an 17 (.iload_n 2) 1, an 18 (.bipush 103) 2, an 20 (.if_icmp .ne 7) 3, an 23 (.iconst 1) 1, an 24 (.goto 4) 3, an 27 (.iconst 0) 1, an 28 (.istore_n 3) 1, an 29 (.iload_n 3) 1, an 30 (.ifCond .ne 30) 3, an 33 (.iload_n 2) 1, an 34 (.bipush 114) 2, an 36 (.if_icmp .eq 24) 3, an 39 (.iload_n 2) 1, an 40 (.bipush 100) 2, an 42 (.if_icmp .eq 18) 3, an 45 (.iload_n 2) 1, an 46 (.bipush 115) 2, an 48 (.if_icmp .eq 12) 3, an 51 (.aload_n 0) 1, an 52 (.aload_n 0) 1, al 53 (.getfield 105) 3 20 11 136 0, al 56 (.invokevirtual 127) 3 2 186 11 0, an 59 .return_ 1, an 60 (.aload_n 0) 1, an 61 .dup 1, al 62 (.getfield 105) 3 20 11 136 0, an 65 (.iconst 1) 1, an 66 .iadd 1, al 67 (.putfield 105) 3 20 11 136 0, an 70 (.aload_n 0) 1, al 71 (.getfield 58) 3 20 11 260 0, an 74 (.iload_n 1) 1, an 75 (.iload_n 2) 1, an 76 .iastore 1, an 77 (.aload_n 0) 1, al 78 (.getfield 58) 3 20 11 260 0, an 81 (.iload_n 1) 1, an 82 (.iconst 1) 1, an 83 .iadd 1, an 84 (.aload_n 0) 1, an 85 (.bipush 48) 2, an 87 (.iload_n 3) 1, an 88 (.ifCond .eq 7) 3, an 91 (.iconst 2) 1, an 92 (.goto 5) 3, an 95 (.bipush 10) 2, al 97 (.invokevirtual 131) 3 2 187 11 0, an 100 .iastore 1, an 101 (.iload_n 3) 1, an 102 (.ifCond .eq 19) 3, an 105 (.aload_n 0) 1, al 106 (.getfield 58) 3 20 11 260 0, an 109 (.iload_n 1) 1, an 110 (.iconst 2) 1, an 111 .iadd 1, an 112 (.aload_n 0) 1, an 113 (.bipush 48) 2, an 115 (.bipush 10) 2, al 117 (.invokevirtual 131) 3 2 187 11 0, an 120 .iastore 1, an 121 (.iload_n 2) 1, an 122 (.bipush 115) 2, an 124 (.if_icmp .ne 18) 3, an 127 (.aload_n 0) 1, al 128 (.getfield 58) 3 20 11 260 0, an 131 (.iload_n 1) 1, an 132 (.iconst 2) 1, an 133 .iadd 1, an 134 (.aload_n 0) 1, an 135 (.bipush 48) 2, an 137 (.iconst 2) 1, al 138 (.invokevirtual 131) 3 2 187 11 0, an 141 .iastore 1, an 142 .return_ 1]
-- 245: BluesAndGreensModel.act(III)Z
def aC245 : List aN := [an 0 (.iload_n 1) 1, an 1 (.lookupswitch 155 #[(98, 71), (99, 98), (100, 120), (103, 137), (114, 51)]) 51, an 52 (.aload_n 0) 1, al 53 (.getfield 83) 3 20 11 8 0, an 56 (.ifCond .ne 5) 3, an 59 (.iconst 0) 1, an 60 .ireturn 1, an 61 (.aload_n 0) 1, an 62 (.aload_n 0) 1, al 63 (.getfield 9) 3 20 11 4 0, an 66 (.iload_n 2) 1, al 67 (.invokevirtual 263) 3 2 223 11 0, an 70 (.iconst 1) 1, an 71 .ireturn 1, an 72 (.aload_n 0) 1, an 73 (.aload_n 0) 1, al 74 (.getfield 9) 3 20 11 4 0, an 77 (.iload_n 2) 1, an 78 (.iload_n 3) 1, al 79 (.invokevirtual 271) 3 2 231 11 0, an 82 (.ifCond .ge 5) 3, an 85 (.iconst 0) 1, an 86 .ireturn 1, an 87 (.aload_n 0) 1, an 88 (.aload_n 0) 1, al 89 (.getfield 9) 3 20 11 4 0, an 92 (.iload_n 2) 1, an 93 (.iload_n 3) 1, al 94 (.invokevirtual 275) 3 2 232 11 0, an 97 (.iconst 1) 1, an 98 .ireturn 1, an 99 (.aload_n 0) 1, an 100 (.iload_n 2) 1, an 101 (.iload_n 3) 1, al 102 (.invokevirtual 278) 3 2 234 11 0, an 105 (.ifCond .ge 5) 3, an 108 (.iconst 0) 1, an 109 .ireturn 1, an 110 (.aload_n 0) 1, al 111 (.getfield 9) 3 20 11 4 0, an 114 (.iload_n 2) 1, an 115 (.iload_n 3) 1, al 116 (.invokestatic 281) 3 1 235 0 0, an 119 (.iconst 1) 1, an 120 .ireturn 1, an 121 (.aload_n 0) 1, an 122 (.iload_n 2) 1, al 123 (.invokevirtual 284) 3 2 237 11 0, an 126 (.ifCond .ge 5) 3, an 129 (.iconst 0) 1, an 130 .ireturn 1, an 131 (.aload_n 0) 1, an 132 (.iload_n 2) 1, al 133 (.invokevirtual 287) 3 2 238 11 0, an 136 (.iconst 1) 1, an 137 .ireturn 1, an 138 (.iload_n 3) 1, an 139 (.ifCond .ne 5) 3, an 142 (.iconst 0) 1, an 143 .ireturn 1, an 144 (.aload_n 0) 1, al 145 (.getfield 9) 3 20 11 4 0, an 148 (.iload_n 2) 1, an 149 (.iload_n 3) 1, an 150 .ineg 1, al 151 (.invokestatic 240) 3 1 227 0 0, an 154 (.iconst 1) 1, an 155 .ireturn 1, an 156 (.aload_n 0) 1, an 157 (.iload_n 2) 1, an 158 (.iload_n 3) 1, al 159 (.invokevirtual 290) 3 2 241 11 0, an 162 (.ifCond .ge 5) 3, an 165 (.iconst 0) 1, an 166 .ireturn 1, an 167 (.aload_n 0) 1, an 168 (.aload_n 0) 1, al 169 (.getfield 9) 3 20 11 4 0, an 172 (.iload_n 2) 1, an 173 (.iload_n 3) 1, al 174 (.invokevirtual 293) 3 2 242 11 0, an 177 (.iconst 1) 1, an 178 .ireturn 1]
-- 246: BluesAndGreensModel.undo()I
def aC246 : List aN := [an 0 (.aload_n 0) 1, an 1 (.iconst 0) 1, al 2 (.putfield 77) 3 20 11 104 0, an 5 (.aload_n 0) 1, al 6 (.getfield 139) 3 20 11 208 0, an 9 (.ifCond .ne 5) 3, an 12 (.iconst (-1)) 1, an 13 .ireturn 1, an 14 (.aload_n 0) 1, an 15 .dup 1, al 16 (.getfield 139) 3 20 11 208 0, an 19 (.iconst 1) 1, an 20 .isub 1, al 21 (.putfield 139) 3 20 11 208 0, an 24 (.iconst 0) 1, an 25 (.istore_n 1) 1, an 26 (.iload_n 1) 1, an 27 (.bipush 39) 2, an 29 (.if_icmp .ge 29) 3, an 32 (.aload_n 0) 1, al 33 (.getfield 9) 3 20 11 4 0, an 36 (.iload_n 1) 1, an 37 (.aload_n 0) 1, al 38 (.getfield 49) 3 20 11 204 0, an 41 (.bipush 39) 2, an 43 (.aload_n 0) 1, al 44 (.getfield 139) 3 20 11 208 0, an 47 .imul 1, an 48 (.iload_n 1) 1, an 49 .iadd 1, an 50 .iaload 1, an 51 .iastore 1, an 52 (.iinc 1 1) 3, an 55 (.goto (-29)) 3, an 58 (.aload_n 0) 1, al 59 (.getfield 139) 3 20 11 208 0, an 62 .ireturn 1]
-- 247: BluesAndGreensModel.order()I
def aC247 : List aN := [an 0 (.aload_n 0) 1, an 1 (.iconst 0) 1, al 2 (.putfield 77) 3 20 11 104 0, an 5 (.aload_n 0) 1, al 6 (.getfield 83) 3 20 11 8 0, an 9 (.ifCond .ne 6) 3, an 12 (.bipush (-2)) 2, an 14 .ireturn 1, an 15 (.aload_n 0) 1, an 16 (.iconst 0) 1, al 17 (.putfield 80) 3 20 11 96 0, an 20 (.iconst 0) 1, an 21 (.istore_n 1) 1, an 22 (.iconst 0) 1, an 23 (.istore_n 2) 1, an 24 (.iload_n 2) 1, an 25 (.aload_n 0) 1, al 26 (.getfield 83) 3 20 11 8 0, an 29 (.if_icmp .ge 80) 3, an 32 (.iconst (-1)) 1, an 33 (.istore_n 3) 1, an 34 (.iconst 0) 1, an 35 (.istore 4) 2, an 37 (.iload 4) 2, an 39 (.aload_n 0) 1, al 40 (.getfield 83) 3 20 11 8 0, an 43 (.if_icmp .ge 48) 3, an 46 (.iload_n 1) 1, an 47 (.iload 4) 2, al 49 (.invokestatic 203) 3 1 217 0 0, an 52 (.ifCond .ne 33) 3, an 55 (.iload_n 3) 1, an 56 (.iconst (-1)) 1, an 57 (.if_icmp .eq 25) 3, an 60 (.aload_n 0) 1, an 61 (.aload_n 0) 1, al 62 (.getfield 9) 3 20 11 4 0, an 65 (.iload 4) 2, al 67 (.invokevirtual 199) 3 2 209 11 0, an 70 (.aload_n 0) 1, an 71 (.aload_n 0) 1, al 72 (.getfield 9) 3 20 11 4 0, an 75 (.iload_n 3) 1, al 76 (.invokevirtual 199) 3 2 209 11 0, an 79 (.if_icmp .le 6) 3, an 82 (.iload 4) 2, an 84 (.istore_n 3) 1, an 85 (.iinc 4 1) 3, an 88 (.goto (-51)) 3, an 91 (.aload_n 0) 1, an 92 (.iload_n 3) 1, an 93 .i2l 1, al 94 (.invokevirtual 267) 3 2 229 11 0, an 97 (.iload_n 1) 1, an 98 (.iconst 1) 1, an 99 (.iload_n 3) 1, an 100 .ishl 1, an 101 .ior 1, an 102 (.istore_n 1) 1, an 103 (.iinc 2 1) 3, an 106 (.goto (-82)) 3, an 109 (.aload_n 0) 1, al 110 (.getfield 33) 3 20 11 92 0, an 113 (.iconst 0) 1, an 114 .laload 1, an 115 .l2i 1, an 116 .ireturn 1]
-- 248: BluesAndGreensModel.ahead(I)I
def aC248 : List aN := [an 0 (.aload_n 0) 1, an 1 (.iconst 0) 1, al 2 (.putfield 77) 3 20 11 104 0, an 5 (.aload_n 0) 1, al 6 (.getfield 83) 3 20 11 8 0, an 9 (.ifCond .ne 6) 3, an 12 (.bipush (-2)) 2, an 14 .ireturn 1, an 15 (.iload_n 1) 1, an 16 (.iconst 0) 1, an 17 (.bipush 99) 2, al 19 (.invokestatic 86) 3 1 181 0 0, an 22 (.ifCond .ne 5) 3, an 25 (.iconst (-1)) 1, an 26 .ireturn 1, an 27 (.aload_n 0) 1, al 28 (.getfield 9) 3 20 11 4 0, an 31 (.aload_n 0) 1, al 32 (.getfield 55) 3 20 11 228 0, an 35 (.iconst 0) 1, al 36 (.invokestatic 228) 3 1 222 0 0, an 39 (.iconst 0) 1, an 40 (.istore_n 2) 1, an 41 (.iconst 0) 1, an 42 (.istore_n 3) 1, an 43 (.iconst 0) 1, an 44 (.istore 4) 2, an 46 (.iconst (-1)) 1, an 47 (.istore 5) 2, an 49 (.iconst 0) 1, an 50 (.istore 6) 2, an 52 (.iconst 0) 1, an 53 (.istore 7) 2, an 55 (.iconst 0) 1, an 56 (.istore 8) 2, an 58 (.iload 8) 2, an 60 (.iload_n 1) 1, an 61 (.if_icmp .ge 128) 3, an 64 (.aload_n 0) 1, al 65 (.getfield 55) 3 20 11 228 0, an 68 (.bipush 6) 2, an 70 (.aload_n 0) 1, an 71 (.aload_n 0) 1, al 72 (.getfield 55) 3 20 11 228 0, al 75 (.invokevirtual 232) 3 2 225 11 0, an 78 .iadd 1, an 79 .iaload 1, an 80 (.istore 9) 2, an 82 (.aload_n 0) 1, an 83 (.aload_n 0) 1, al 84 (.getfield 55) 3 20 11 228 0, al 87 (.invokevirtual 252) 3 2 224 11 0, an 90 .pop 1, an 91 (.iload 9) 2, an 93 (.iload 5) 2, an 95 (.if_icmp .ne 10) 3, an 98 (.iload 4) 2, an 100 (.iconst 1) 1, an 101 .iadd 1, an 102 (.goto 4) 3, an 105 (.iconst 1) 1, an 106 (.istore 4) 2, an 108 (.iload 9) 2, an 110 (.istore 5) 2, an 112 (.iload_n 2) 1, an 113 (.iload 9) 2, an 115 (.ifCond .ne 7) 3, an 118 (.iconst 1) 1, an 119 (.goto 4) 3, an 122 (.iconst 0) 1, an 123 .iadd 1, an 124 (.istore_n 2) 1, an 125 (.iload_n 3) 1, an 126 (.aload_n 0) 1, an 127 (.aload_n 0) 1, al 128 (.getfield 55) 3 20 11 228 0, al 131 (.invokevirtual 255) 3 2 228 11 0, an 134 (.ifCond .eq 7) 3, an 137 (.iconst 1) 1, an 138 (.goto 4) 3, an 141 (.iconst 0) 1, an 142 .iadd 1, an 143 (.istore_n 3) 1, an 144 (.iload 9) 2, an 146 (.ifCond .ne 13) 3, an 149 (.iload 6) 2, an 151 (.iload 4) 2, al 153 (.invokestatic 225) 3 17 0 0 0, an 156 (.goto 5) 3, an 159 (.iload 6) 2, an 161 (.istore 6) 2, an 163 (.iload 9) 2, an 165 (.iconst 1) 1, an 166 (.if_icmp .ne 13) 3, an 169 (.iload 7) 2, an 171 (.iload 4) 2, al 173 (.invokestatic 225) 3 17 0 0 0, an 176 (.goto 5) 3, an 179 (.iload 7) 2, an 181 (.istore 7) 2, an 183 (.iinc 8 1) 3, an 186 (.goto (-128)) 3, an 189 (.aload_n 0) 1, an 190 (.iconst 0) 1, al 191 (.putfield 80) 3 20 11 96 0, an 194 (.aload_n 0) 1, an 195 (.iload 6) 2, an 197 .i2l 1, al 198 (.invokevirtual 267) 3 2 229 11 0, an 201 (.aload_n 0) 1, an 202 (.iload 7) 2, an 204 .i2l 1, al 205 (.invokevirtual 267) 3 2 229 11 0, an 208 (.aload_n 0) 1, an 209 (.iload_n 3) 1, an 210 .i2l 1, al 211 (.invokevirtual 267) 3 2 229 11 0, an 214 (.iload_n 2) 1, an 215 .ireturn 1]
-- 249: BluesAndGreensModel.joins()I
def aC249 : List aN := [an 0 (.aload_n 0) 1, an 1 (.iconst 0) 1, al 2 (.putfield 77) 3 20 11 104 0, an 5 (.aload_n 0) 1, al 6 (.getfield 9) 3 20 11 4 0, an 9 (.aload_n 0) 1, al 10 (.getfield 55) 3 20 11 228 0, an 13 (.iconst 0) 1, al 14 (.invokestatic 228) 3 1 222 0 0, an 17 (.iconst 0) 1, an 18 (.istore_n 1) 1, an 19 (.iload_n 1) 1, an 20 (.bipush 99) 2, an 22 (.if_icmp .gt 68) 3, an 25 (.aload_n 0) 1, an 26 (.aload_n 0) 1, al 27 (.getfield 55) 3 20 11 228 0, al 30 (.invokevirtual 255) 3 2 228 11 0, an 33 (.ifCond .eq 32) 3, an 36 (.aload_n 0) 1, an 37 (.iconst 0) 1, al 38 (.putfield 80) 3 20 11 96 0, an 41 (.aload_n 0) 1, an 42 (.aload_n 0) 1, al 43 (.getfield 55) 3 20 11 228 0, an 46 (.iconst 2) 1, an 47 .iaload 1, an 48 .i2l 1, al 49 (.invokevirtual 267) 3 2 229 11 0, an 52 (.aload_n 0) 1, an 53 (.aload_n 0) 1, al 54 (.getfield 55) 3 20 11 228 0, an 57 (.iconst 3) 1, an 58 .iaload 1, an 59 .i2l 1, al 60 (.invokevirtual 267) 3 2 229 11 0, an 63 (.iload_n 1) 1, an 64 .ireturn 1, an 65 (.aload_n 0) 1, al 66 (.getfield 83) 3 20 11 8 0, an 69 (.ifCond .ne 6) 3, an 72 (.bipush (-2)) 2, an 74 .ireturn 1, an 75 (.aload_n 0) 1, an 76 (.aload_n 0) 1, al 77 (.getfield 55) 3 20 11 228 0, al 80 (.invokevirtual 252) 3 2 224 11 0, an 83 .pop 1, an 84 (.iinc 1 1) 3, an 87 (.goto (-68)) 3, an 90 (.bipush (-2)) 2, an 92 .ireturn 1]
-- 250: BluesAndGreensModel.bribe(I)I
def aC250 : List aN := [an 0 (.aload_n 0) 1, an 1 (.iconst 0) 1, al 2 (.putfield 77) 3 20 11 104 0, an 5 (.iload_n 1) 1, al 6 (.invokestatic 207) 3 1 213 0 0, an 9 (.ifCond .ne 5) 3, an 12 (.iconst (-1)) 1, an 13 .ireturn 1, an 14 (.aload_n 0) 1, al 15 (.getfield 83) 3 20 11 8 0, an 18 (.ifCond .ne 6) 3, an 21 (.bipush (-2)) 2, an 23 .ireturn 1, an 24 (.iconst (-1)) 1, an 25 (.istore_n 2) 1, an 26 (.aload_n 0) 1, an 27 (.aload_n 0) 1, al 28 (.getfield 9) 3 20 11 4 0, an 31 (.iload_n 1) 1, al 32 (.invokevirtual 302) 3 2 251 11 0, an 35 (.ifCond .ne 99) 3, an 38 (.iconst 0) 1, an 39 (.istore_n 3) 1, an 40 (.iload_n 3) 1, an 41 (.aload_n 0) 1, al 42 (.getfield 83) 3 20 11 8 0, an 45 (.if_icmp .ge 81) 3, an 48 (.aload_n 0) 1, an 49 (.aload_n 0) 1, al 50 (.getfield 9) 3 20 11 4 0, an 53 (.iload_n 1) 1, an 54 (.iload_n 3) 1, al 55 (.invokevirtual 271) 3 2 231 11 0, an 58 (.ifCond .lt 62) 3, an 61 (.iload_n 2) 1, an 62 (.iconst (-1)) 1, an 63 (.if_icmp .eq 21) 3, an 66 (.aload_n 0) 1, al 67 (.getfield 16) 3 20 11 28 0, an 70 (.iload_n 3) 1, an 71 .iaload 1, an 72 (.aload_n 0) 1, al 73 (.getfield 16) 3 20 11 28 0, an 76 (.iload_n 2) 1, an 77 .iaload 1, an 78 (.if_icmp .lt 6) 3, an 81 (.goto 39) 3, an 84 (.aload_n 0) 1, al 85 (.getfield 9) 3 20 11 4 0, an 88 (.aload_n 0) 1, al 89 (.getfield 55) 3 20 11 228 0, an 92 (.iconst 0) 1, al 93 (.invokestatic 228) 3 1 222 0 0, an 96 (.aload_n 0) 1, an 97 (.aload_n 0) 1, al 98 (.getfield 55) 3 20 11 228 0, an 101 (.iload_n 1) 1, an 102 (.iload_n 3) 1, al 103 (.invokevirtual 275) 3 2 232 11 0, an 106 (.aload_n 0) 1, an 107 (.aload_n 0) 1, al 108 (.getfield 55) 3 20 11 228 0, an 111 (.iload_n 1) 1, al 112 (.invokevirtual 302) 3 2 251 11 0, an 115 (.ifCond .eq 5) 3, an 118 (.iload_n 3) 1, an 119 (.istore_n 2) 1, an 120 (.iinc 3 1) 3, an 123 (.goto (-83)) 3, an 126 (.iload_n 2) 1, an 127 (.iconst (-1)) 1, an 128 (.if_icmp .ne 6) 3, an 131 (.bipush (-2)) 2, an 133 .ireturn 1, an 134 (.aload_n 0) 1, an 135 (.iconst 0) 1, al 136 (.putfield 80) 3 20 11 96 0, an 139 (.aload_n 0) 1, an 140 (.iload_n 2) 1, an 141 .i2l 1, al 142 (.invokevirtual 267) 3 2 229 11 0, an 145 (.iload_n 2) 1, an 146 (.iconst (-1)) 1, an 147 (.if_icmp .ne 7) 3, an 150 (.iconst 0) 1, an 151 (.goto 9) 3, an 154 (.aload_n 0) 1, al 155 (.getfield 16) 3 20 11 28 0, an 158 (.iload_n 2) 1, an 159 .iaload 1, an 160 .ireturn 1]
-- 251: BluesAndGreensModel.doesWin([II)Z
def aC251 : List aN := [an 0 (.aload_n 1) 1, an 1 (.bipush 6) 2, an 3 (.aload_n 0) 1, an 4 (.aload_n 1) 1, al 5 (.invokevirtual 232) 3 2 225 11 0, an 8 .iadd 1, an 9 .iaload 1, an 10 (.iload_n 2) 1, an 11 (.if_icmp .ne 7) 3, an 14 (.iconst 1) 1, an 15 (.goto 4) 3, an 18 (.iconst 0) 1, an 19 .ireturn 1]
-- 252: BluesAndGreensModel.lead(I)I
def aC252 : List aN := [an 0 (.aload_n 0) 1, an 1 (.iconst 0) 1, al 2 (.putfield 77) 3 20 11 104 0, an 5 (.iload_n 1) 1, al 6 (.invokestatic 207) 3 1 213 0 0, an 9 (.ifCond .ne 5) 3, an 12 (.iconst (-1)) 1, an 13 .ireturn 1, an 14 (.aload_n 0) 1, al 15 (.getfield 83) 3 20 11 8 0, an 18 (.ifCond .ne 6) 3, an 21 (.bipush (-2)) 2, an 23 .ireturn 1, an 24 (.iconst (-1)) 1, an 25 (.istore_n 2) 1, an 26 (.iconst 0) 1, an 27 (.istore_n 3) 1, an 28 (.iload_n 3) 1, an 29 (.iconst 1) 1, an 30 (.aload_n 0) 1, al 31 (.getfield 83) 3 20 11 8 0, an 34 .ishl 1, an 35 (.if_icmp .ge 117) 3, an 38 (.iload_n 3) 1, al 39 (.invokestatic 306) 3 1 12 0 0, an 42 (.istore 4) 2, an 44 (.iconst 5) 1, an 45 (.iload 4) 2, an 47 .imul 1, an 48 (.aload_n 0) 1, al 49 (.getfield 9) 3 20 11 4 0, an 52 (.iload_n 1) 1, an 53 .iaload 1, an 54 (.if_icmp .gt 92) 3, an 57 (.iload_n 2) 1, an 58 (.iconst (-1)) 1, an 59 (.if_icmp .eq 12) 3, an 62 (.iload 4) 2, an 64 (.iload_n 2) 1, al 65 (.invokestatic 306) 3 1 12 0 0, an 68 (.if_icmp .ge 78) 3, an 71 (.aload_n 0) 1, an 72 (.iload_n 3) 1, an 73 (.iload_n 1) 1, al 74 (.invokevirtual 311) 3 2 253 11 0, an 77 (.ifCond .ne 6) 3, an 80 (.goto 66) 3, an 83 (.aload_n 0) 1, al 84 (.getfield 9) 3 20 11 4 0, an 87 (.aload_n 0) 1, al 88 (.getfield 55) 3 20 11 228 0, an 91 (.iconst 0) 1, al 92 (.invokestatic 228) 3 1 222 0 0, an 95 (.iconst 0) 1, an 96 (.istore 5) 2, an 98 (.iload 5) 2, an 100 (.aload_n 0) 1, al 101 (.getfield 83) 3 20 11 8 0, an 104 (.if_icmp .ge 28) 3, an 107 (.iload_n 3) 1, an 108 (.iload 5) 2, al 110 (.invokestatic 203) 3 1 217 0 0, an 113 (.ifCond .eq 13) 3, an 116 (.aload_n 0) 1, al 117 (.getfield 55) 3 20 11 228 0, an 120 (.iload_n 1) 1, an 121 (.iload 5) 2, al 123 (.invokestatic 281) 3 1 235 0 0, an 126 (.iinc 5 1) 3, an 129 (.goto (-31)) 3, an 132 (.aload_n 0) 1, an 133 (.aload_n 0) 1, al 134 (.getfield 55) 3 20 11 228 0, an 137 (.iload_n 1) 1, al 138 (.invokevirtual 302) 3 2 251 11 0, an 141 (.ifCond .eq 5) 3, an 144 (.iload_n 3) 1, an 145 (.istore_n 2) 1, an 146 (.iinc 3 1) 3, an 149 (.goto (-121)) 3, an 152 (.iload_n 2) 1, an 153 (.iconst (-1)) 1, an 154 (.if_icmp .ne 6) 3, an 157 (.bipush (-2)) 2, an 159 .ireturn 1, an 160 (.aload_n 0) 1, an 161 (.iconst 0) 1, al 162 (.putfield 80) 3 20 11 96 0, an 165 (.aload_n 0) 1, an 166 (.iload_n 2) 1, an 167 .i2l 1, al 168 (.invokevirtual 267) 3 2 229 11 0, an 171 (.iload_n 2) 1, al 172 (.invokestatic 306) 3 1 12 0 0, an 175 .ireturn 1]
-- 253: BluesAndGreensModel.areToCurse(II)Z
def aC253 : List aN := [an 0 (.iconst 0) 1, an 1 (.istore_n 3) 1, an 2 (.iload_n 3) 1, an 3 (.aload_n 0) 1, al 4 (.getfield 83) 3 20 11 8 0, an 7 (.if_icmp .ge 45) 3, an 10 (.iload_n 1) 1, an 11 (.iload_n 3) 1, al 12 (.invokestatic 203) 3 1 217 0 0, an 15 (.ifCond .eq 31) 3, an 18 (.aload_n 0) 1, al 19 (.getfield 9) 3 20 11 4 0, an 22 (.bipush 6) 2, an 24 (.iload_n 3) 1, an 25 .iadd 1, an 26 .iaload 1, an 27 (.iload_n 2) 1, an 28 (.if_icmp .eq 16) 3, an 31 (.aload_n 0) 1, al 32 (.getfield 9) 3 20 11 4 0, an 35 (.bipush 14) 2, an 37 (.iload_n 3) 1, an 38 .iadd 1, an 39 .iaload 1, an 40 (.iconst 1) 1, an 41 (.if_icmp .ne 5) 3, an 44 (.iconst 0) 1, an 45 .ireturn 1, an 46 (.iinc 3 1) 3, an 49 (.goto (-47)) 3, an 52 (.iconst 1) 1, an 53 .ireturn 1]
-- 254: BluesAndGreensModel.stable(I)I
def aC254 : List aN := [an 0 (.aload_n 0) 1, an 1 (.iconst 0) 1, al 2 (.putfield 77) 3 20 11 104 0, an 5 (.iload_n 1) 1, al 6 (.invokestatic 207) 3 1 213 0 0, an 9 (.ifCond .ne 5) 3, an 12 (.iconst (-1)) 1, an 13 .ireturn 1, an 14 (.aload_n 0) 1, an 15 (.aload_n 0) 1, al 16 (.getfield 9) 3 20 11 4 0, an 19 (.iconst 1) 1, an 20 (.iload_n 1) 1, an 21 .isub 1, al 22 (.invokevirtual 210) 3 2 214 11 0, an 25 (.istore_n 2) 1, an 26 (.iconst 0) 1, an 27 (.istore_n 3) 1, an 28 (.iconst 1) 1, an 29 (.istore 4) 2, an 31 (.iload 4) 2, an 33 (.iload_n 2) 1, an 34 (.if_icmp .gt 97) 3, an 37 (.iload 4) 2, an 39 (.iload_n 2) 1, an 40 (.iconst (-1)) 1, an 41 .ixor 1, an 42 .iand 1, an 43 (.ifCond .ne 82) 3, an 46 (.aload_n 0) 1, an 47 (.aload_n 0) 1, al 48 (.getfield 16) 3 20 11 28 0, an 51 (.iload 4) 2, al 53 (.invokevirtual 314) 3 2 255 11 0, an 56 (.aload_n 0) 1, al 57 (.getfield 9) 3 20 11 4 0, an 60 (.iload_n 1) 1, an 61 .iaload 1, an 62 (.if_icmp .le 6) 3, an 65 (.goto 60) 3, an 68 (.aload_n 0) 1, an 69 (.aload_n 0) 1, al 70 (.getfield 13) 3 20 11 20 0, an 73 (.iload 4) 2, al 75 (.invokevirtual 314) 3 2 255 11 0, an 78 (.aload_n 0) 1, an 79 (.aload_n 0) 1, al 80 (.getfield 13) 3 20 11 20 0, an 83 (.iload_n 3) 1, al 84 (.invokevirtual 314) 3 2 255 11 0, an 87 .isub 1, an 88 (.istore 5) 2, an 90 (.iload 5) 2, an 92 (.ifCond .gt 30) 3, an 95 (.iload 5) 2, an 97 (.ifCond .ne 28) 3, an 100 (.aload_n 0) 1, an 101 (.aload_n 0) 1, al 102 (.getfield 16) 3 20 11 28 0, an 105 (.iload 4) 2, al 107 (.invokevirtual 314) 3 2 255 11 0, an 110 (.aload_n 0) 1, an 111 (.aload_n 0) 1, al 112 (.getfield 16) 3 20 11 28 0, an 115 (.iload_n 3) 1, al 116 (.invokevirtual 314) 3 2 255 11 0, an 119 (.if_icmp .ge 6) 3, an 122 (.iload 4) 2, an 124 (.istore_n 3) 1, an 125 (.iinc 4 1) 3, an 128 (.goto (-97)) 3, an 131 (.aload_n 0) 1, an 132 (.iconst 0) 1, al 133 (.putfield 80) 3 20 11 96 0, an 136 (.aload_n 0) 1, an 137 (.iload_n 3) 1, an 138 .i2l 1, al 139 (.invokevirtual 267) 3 2 229 11 0, an 142 (.aload_n 0) 1, an 143 (.aload_n 0) 1, an 144 (.aload_n 0) 1, al 145 (.getfield 16) 3 20 11 28 0, an 148 (.iload_n 3) 1, al 149 (.invokevirtual 314) 3 2 255 11 0, an 152 .i2l 1, al 153 (.invokevirtual 267) 3 2 229 11 0, an 156 (.aload_n 0) 1, an 157 (.aload_n 0) 1, al 158 (.getfield 13) 3 20 11 20 0, an 161 (.iload_n 3) 1, al 162 (.invokevirtual 314) 3 2 255 11 0, an 165 .ireturn 1]
-- 255: BluesAndGreensModel.sumOf([II)I
def aC255 : List aN := [an 0 (.iconst 0) 1, an 1 (.istore_n 3) 1, an 2 (.iconst 0) 1, an 3 (.istore 4) 2, an 5 (.iload 4) 2, an 7 (.aload_n 0) 1, al 8 (.getfield 83) 3 20 11 8 0, an 11 (.if_icmp .ge 29) 3, an 14 (.iload_n 3) 1, an 15 (.iload_n 2) 1, an 16 (.iload 4) 2, al 18 (.invokestatic 203) 3 1 217 0 0, an 21 (.ifCond .eq 10) 3, an 24 (.aload_n 1) 1, an 25 (.iload 4) 2, an 27 .iaload 1, an 28 (.goto 4) 3, an 31 (.iconst 0) 1, an 32 .iadd 1, an 33 (.istore_n 3) 1, an 34 (.iinc 4 1) 3, an 37 (.goto (-32)) 3, an 40 (.iload_n 3) 1, an 41 .ireturn 1]
-- 256: BluesAndGreensModel.apart()I
def aC256 : List aN := [an 0 (.aload_n 0) 1, an 1 (.iconst 0) 1, al 2 (.putfield 77) 3 20 11 104 0, an 5 (.aload_n 0) 1, al 6 (.invokevirtual 317) 3 2 257 11 0, an 9 (.istore_n 1) 1, an 10 (.iconst 0) 1, an 11 (.istore_n 2) 1, an 12 (.iload_n 2) 1, an 13 (.iload_n 1) 1, an 14 (.if_icmp .gt 58) 3, an 17 (.iload_n 2) 1, an 18 (.iload_n 1) 1, an 19 (.iconst (-1)) 1, an 20 .ixor 1, an 21 .iand 1, an 22 (.ifCond .ne 44) 3, an 25 (.aload_n 0) 1, an 26 (.iload_n 1) 1, an 27 (.iload_n 2) 1, al 28 (.invokevirtual 320) 3 2 258 11 0, an 31 (.ifCond .eq 6) 3, an 34 (.goto 32) 3, an 37 (.aload_n 0) 1, an 38 (.iconst 0) 1, al 39 (.putfield 80) 3 20 11 96 0, an 42 (.aload_n 0) 1, an 43 (.aload_n 0) 1, al 44 (.getfield 55) 3 20 11 228 0, an 47 (.iconst 2) 1, an 48 .iaload 1, an 49 .i2l 1, al 50 (.invokevirtual 267) 3 2 229 11 0, an 53 (.aload_n 0) 1, an 54 (.aload_n 0) 1, al 55 (.getfield 55) 3 20 11 228 0, an 58 (.iconst 3) 1, an 59 .iaload 1, an 60 .i2l 1, al 61 (.invokevirtual 267) 3 2 229 11 0, an 64 (.iload_n 2) 1, an 65 .ireturn 1, an 66 (.iinc 2 1) 3, an 69 (.goto (-57)) 3, an 72 (.bipush (-2)) 2, an 74 .ireturn 1]
-- 257: BluesAndGreensModel.notShown()I
def aC257 : List aN := [an 0 (.iconst 0) 1, an 1 (.istore_n 1) 1, an 2 (.iconst 0) 1, an 3 (.istore_n 2) 1, an 4 (.iload_n 2) 1, an 5 (.aload_n 0) 1, al 6 (.getfield 164) 3 20 11 48 0, an 9 (.if_icmp .ge 32) 3, an 12 (.iload_n 1) 1, an 13 (.aload_n 0) 1, al 14 (.getfield 9) 3 20 11 4 0, an 17 (.bipush 30) 2, an 19 (.iload_n 2) 1, an 20 .iadd 1, an 21 .iaload 1, an 22 (.iconst (-1)) 1, an 23 (.if_icmp .ne 9) 3, an 26 (.iconst 1) 1, an 27 (.iload_n 2) 1, an 28 .ishl 1, an 29 (.goto 4) 3, an 32 (.iconst 0) 1, an 33 .ior 1, an 34 (.istore_n 1) 1, an 35 (.iinc 2 1) 3, an 38 (.goto (-34)) 3, an 41 (.iload_n 1) 1, an 42 .ireturn 1]
-- 258: BluesAndGreensModel.doesSet(II)Z
def aC258 : List aN := [an 0 (.aload_n 0) 1, al 1 (.getfield 9) 3 20 11 4 0, an 4 (.aload_n 0) 1, al 5 (.getfield 55) 3 20 11 228 0, an 8 (.iconst 0) 1, al 9 (.invokestatic 228) 3 1 222 0 0, an 12 (.iconst 0) 1, an 13 (.istore_n 3) 1, an 14 (.iconst 0) 1, an 15 (.istore 4) 2, an 17 (.iload 4) 2, an 19 (.aload_n 0) 1, al 20 (.getfield 164) 3 20 11 48 0, an 23 (.if_icmp .ge 48) 3, an 26 (.iload_n 1) 1, an 27 (.iload 4) 2, al 29 (.invokestatic 203) 3 1 217 0 0, an 32 (.ifCond .ne 6) 3, an 35 (.goto 30) 3, an 38 (.aload_n 0) 1, an 39 (.aload_n 0) 1, al 40 (.getfield 55) 3 20 11 228 0, an 43 (.iload 4) 2, an 45 (.iload_n 2) 1, an 46 (.iload 4) 2, an 48 .ishr 1, an 49 (.iconst 1) 1, an 50 .iand 1, al 51 (.invokevirtual 293) 3 2 242 11 0, an 54 (.iload_n 3) 1, an 55 (.aload_n 0) 1, an 56 (.aload_n 0) 1, al 57 (.getfield 55) 3 20 11 228 0, al 60 (.invokevirtual 255) 3 2 228 11 0, an 63 .ior 1, an 64 (.istore_n 3) 1, an 65 (.iinc 4 1) 3, an 68 (.goto (-51)) 3, an 71 (.iload_n 3) 1, an 72 .ireturn 1]
-- 259: BluesAndGreensModel.calm()I
def aC259 : List aN := [an 0 (.aload_n 0) 1, an 1 (.iconst 0) 1, al 2 (.putfield 77) 3 20 11 104 0, an 5 (.aload_n 0) 1, al 6 (.invokevirtual 317) 3 2 257 11 0, an 9 (.istore_n 1) 1, an 10 (.iconst (-1)) 1, an 11 (.istore_n 2) 1, an 12 (.iconst 0) 1, an 13 (.istore_n 3) 1, an 14 (.iconst 0) 1, an 15 (.istore 4) 2, an 17 (.iconst 0) 1, an 18 (.istore 5) 2, an 20 (.iload 5) 2, an 22 (.iload_n 1) 1, an 23 (.if_icmp .gt 100) 3, an 26 (.iload 5) 2, an 28 (.iload_n 1) 1, an 29 (.iconst (-1)) 1, an 30 .ixor 1, an 31 .iand 1, an 32 (.ifCond .eq 6) 3, an 35 (.goto 82) 3, an 38 (.aload_n 0) 1, an 39 (.iload_n 1) 1, an 40 (.iload 5) 2, al 42 (.invokevirtual 320) 3 2 258 11 0, an 45 .pop 1, an 46 (.aload_n 0) 1, al 47 (.getfield 55) 3 20 11 228 0, an 50 (.iconst 2) 1, an 51 .iaload 1, an 52 (.aload_n 0) 1, al 53 (.getfield 55) 3 20 11 228 0, an 56 (.iconst 3) 1, an 57 .iaload 1, al 58 (.invokestatic 219) 3 18 0 0 0, an 61 (.istore 6) 2, an 63 (.aload_n 0) 1, al 64 (.getfield 55) 3 20 11 228 0, an 67 (.iconst 2) 1, an 68 .iaload 1, an 69 (.aload_n 0) 1, al 70 (.getfield 55) 3 20 11 228 0, an 73 (.iconst 3) 1, an 74 .iaload 1, al 75 (.invokestatic 225) 3 17 0 0 0, an 78 (.istore 7) 2, an 80 (.iload_n 2) 1, an 81 (.iconst (-1)) 1, an 82 (.if_icmp .eq 25) 3, an 85 (.iload 6) 2, an 87 (.iload_n 3) 1, an 88 (.if_icmp .gt 29) 3, an 91 (.iload 6) 2, an 93 (.iload_n 3) 1, an 94 (.if_icmp .ne 13) 3, an 97 (.iload 7) 2, an 99 (.iload 4) 2, an 101 (.if_icmp .lt 6) 3, an 104 (.goto 13) 3, an 107 (.iload 5) 2, an 109 (.istore_n 2) 1, an 110 (.iload 6) 2, an 112 (.istore_n 3) 1, an 113 (.iload 7) 2, an 115 (.istore 4) 2, an 117 (.iinc 5 1) 3, an 120 (.goto (-100)) 3, an 123 (.aload_n 0) 1, an 124 (.iconst 0) 1, al 125 (.putfield 80) 3 20 11 96 0, an 128 (.aload_n 0) 1, an 129 (.iload_n 3) 1, an 130 .i2l 1, al 131 (.invokevirtual 267) 3 2 229 11 0, an 134 (.aload_n 0) 1, an 135 (.iload 4) 2, an 137 .i2l 1, al 138 (.invokevirtual 267) 3 2 229 11 0, an 141 (.iload_n 2) 1, an 142 .ireturn 1]
-- 260: BluesAndGreensModel.risky()I
def aC260 : List aN := [an 0 (.aload_n 0) 1, an 1 (.iconst 0) 1, al 2 (.putfield 77) 3 20 11 104 0, an 5 (.aload_n 0) 1, al 6 (.invokevirtual 317) 3 2 257 11 0, an 9 (.istore_n 1) 1, an 10 (.iconst 0) 1, an 11 (.istore_n 2) 1, an 12 (.iconst 0) 1, an 13 (.istore_n 3) 1, an 14 (.iload_n 3) 1, an 15 (.iload_n 1) 1, an 16 (.if_icmp .gt 34) 3, an 19 (.iload_n 2) 1, an 20 (.iload_n 3) 1, an 21 (.iload_n 1) 1, an 22 (.iconst (-1)) 1, an 23 .ixor 1, an 24 .iand 1, an 25 (.ifCond .ne 16) 3, an 28 (.aload_n 0) 1, an 29 (.iload_n 1) 1, an 30 (.iload_n 3) 1, al 31 (.invokevirtual 320) 3 2 258 11 0, an 34 (.ifCond .eq 7) 3, an 37 (.iconst 1) 1, an 38 (.goto 4) 3, an 41 (.iconst 0) 1, an 42 .iadd 1, an 43 (.istore_n 2) 1, an 44 (.iinc 3 1) 3, an 47 (.goto (-33)) 3, an 50 (.aload_n 0) 1, an 51 (.iconst 0) 1, al 52 (.putfield 80) 3 20 11 96 0, an 55 (.aload_n 0) 1, an 56 (.iload_n 1) 1, an 57 .i2l 1, al 58 (.invokevirtual 267) 3 2 229 11 0, an 61 (.iload_n 2) 1, an 62 .ireturn 1]
-- 261: BluesAndGreensModel.worst()I
def aC261 : List aN := [an 0 (.aload_n 0) 1, an 1 (.iconst 0) 1, al 2 (.putfield 77) 3 20 11 104 0, an 5 (.iconst (-1)) 1, an 6 (.istore_n 1) 1, an 7 (.iconst (-1)) 1, an 8 (.istore_n 2) 1, an 9 (.iconst 0) 1, an 10 (.istore_n 3) 1, an 11 (.iload_n 3) 1, an 12 (.aload_n 0) 1, al 13 (.getfield 164) 3 20 11 48 0, an 16 (.if_icmp .ge 62) 3, an 19 (.aload_n 0) 1, al 20 (.getfield 9) 3 20 11 4 0, an 23 (.bipush 30) 2, an 25 (.iload_n 3) 1, an 26 .iadd 1, an 27 .iaload 1, an 28 (.iconst (-1)) 1, an 29 (.if_icmp .ne 43) 3, an 32 (.aload_n 0) 1, an 33 (.iload_n 3) 1, an 34 (.iconst 0) 1, al 35 (.invokevirtual 323) 3 2 262 11 0, an 38 (.aload_n 0) 1, an 39 (.iload_n 3) 1, an 40 (.iconst 1) 1, al 41 (.invokevirtual 323) 3 2 262 11 0, al 44 (.invokestatic 225) 3 17 0 0 0, an 47 (.iload_n 2) 1, an 48 (.if_icmp .gt 6) 3, an 51 (.goto 21) 3, an 54 (.iload_n 3) 1, an 55 (.istore_n 1) 1, an 56 (.aload_n 0) 1, an 57 (.iload_n 3) 1, an 58 (.iconst 0) 1, al 59 (.invokevirtual 323) 3 2 262 11 0, an 62 (.aload_n 0) 1, an 63 (.iload_n 3) 1, an 64 (.iconst 1) 1, al 65 (.invokevirtual 323) 3 2 262 11 0, al 68 (.invokestatic 225) 3 17 0 0 0, an 71 (.istore_n 2) 1, an 72 (.iinc 3 1) 3, an 75 (.goto (-64)) 3, an 78 (.iload_n 1) 1, an 79 (.iconst (-1)) 1, an 80 (.if_icmp .ne 6) 3, an 83 (.bipush (-2)) 2, an 85 .ireturn 1, an 86 (.aload_n 0) 1, an 87 (.iconst 0) 1, al 88 (.putfield 80) 3 20 11 96 0, an 91 (.aload_n 0) 1, an 92 (.iload_n 2) 1, an 93 .i2l 1, al 94 (.invokevirtual 267) 3 2 229 11 0, an 97 (.aload_n 0) 1, an 98 (.aload_n 0) 1, an 99 (.iload_n 1) 1, an 100 (.iconst 0) 1, al 101 (.invokevirtual 323) 3 2 262 11 0, an 104 (.iload_n 2) 1, an 105 (.if_icmp .ne 7) 3, an 108 (.lconst 0) 1, an 109 (.goto 4) 3, an 112 (.lconst 1) 1, al 113 (.invokevirtual 267) 3 2 229 11 0, an 116 (.iload_n 1) 1, an 117 .ireturn 1]
-- 262: BluesAndGreensModel.adds(II)I
def aC262 : List aN := [an 0 (.aload_n 0) 1, al 1 (.getfield 9) 3 20 11 4 0, an 4 (.aload_n 0) 1, al 5 (.getfield 55) 3 20 11 228 0, an 8 (.iconst 0) 1, al 9 (.invokestatic 228) 3 1 222 0 0, an 12 (.aload_n 0) 1, an 13 (.aload_n 0) 1, al 14 (.getfield 55) 3 20 11 228 0, an 17 (.iload_n 1) 1, an 18 (.iload_n 2) 1, al 19 (.invokevirtual 293) 3 2 242 11 0, an 22 (.aload_n 0) 1, al 23 (.getfield 55) 3 20 11 228 0, an 26 (.iconst 2) 1, an 27 .iaload 1, an 28 (.aload_n 0) 1, al 29 (.getfield 55) 3 20 11 228 0, an 32 (.iconst 3) 1, an 33 .iaload 1, al 34 (.invokestatic 219) 3 18 0 0 0, an 37 (.aload_n 0) 1, al 38 (.getfield 9) 3 20 11 4 0, an 41 (.iconst 2) 1, an 42 .iaload 1, an 43 (.aload_n 0) 1, al 44 (.getfield 9) 3 20 11 4 0, an 47 (.iconst 3) 1, an 48 .iaload 1, al 49 (.invokestatic 219) 3 18 0 0 0, an 52 .isub 1, an 53 .ireturn 1]
-- 263: BluesAndGreensModel.riots(I)I
def aC263 : List aN := [an 0 (.aload_n 0) 1, an 1 (.iconst 0) 1, al 2 (.putfield 77) 3 20 11 104 0, an 5 (.aload_n 0) 1, an 6 (.iload_n 1) 1, al 7 (.invokevirtual 326) 3 2 264 11 0, an 10 (.ifCond .ne 5) 3, an 13 (.iconst (-1)) 1, an 14 .ireturn 1, an 15 (.aload_n 0) 1, an 16 (.iload_n 1) 1, an 17 (.iconst 0) 1, al 18 (.invokevirtual 329) 3 2 265 11 0, an 21 (.istore_n 2) 1, an 22 (.aload_n 0) 1, an 23 (.iconst 0) 1, al 24 (.putfield 80) 3 20 11 96 0, an 27 (.aload_n 0) 1, an 28 (.iload_n 2) 1, al 29 (.invokestatic 306) 3 1 12 0 0, an 32 .i2l 1, al 33 (.invokevirtual 267) 3 2 229 11 0, an 36 (.aload_n 0) 1, an 37 (.aload_n 0) 1, an 38 (.iload_n 2) 1, al 39 (.invokevirtual 216) 3 2 216 11 0, an 42 .i2l 1, al 43 (.invokevirtual 267) 3 2 229 11 0, an 46 (.iload_n 2) 1, an 47 .ireturn 1]
-- 264: BluesAndGreensModel.areQuarters(I)Z
def aC264 : List aN := [an 0 (.iload_n 1) 1, an 1 (.iconst 0) 1, an 2 (.iconst 1) 1, an 3 (.aload_n 0) 1, al 4 (.getfield 90) 3 20 11 32 0, an 7 .ishl 1, an 8 (.iconst 1) 1, an 9 .isub 1, al 10 (.invokestatic 86) 3 1 181 0 0, an 13 .ireturn 1]
-- 265: BluesAndGreensModel.riotsBy(II)I
def aC265 : List aN := [an 0 (.iload_n 1) 1, an 1 (.iload_n 2) 1, an 2 (.iconst (-1)) 1, an 3 .ixor 1, an 4 .iand 1, an 5 (.istore_n 3) 1, an 6 (.iconst (-1)) 1, an 7 (.istore 4) 2, an 9 (.iload_n 3) 1, an 10 (.iload 4) 2, an 12 (.if_icmp .eq 73) 3, an 15 (.iload_n 3) 1, an 16 (.istore 4) 2, an 18 (.iconst 0) 1, an 19 (.istore 5) 2, an 21 (.iload 5) 2, an 23 (.aload_n 0) 1, al 24 (.getfield 90) 3 20 11 32 0, an 27 (.if_icmp .ge 55) 3, an 30 (.iload_n 3) 1, an 31 (.iload_n 2) 1, an 32 (.iload 5) 2, al 34 (.invokestatic 203) 3 1 217 0 0, an 37 (.ifCond .ne 36) 3, an 40 (.iload 4) 2, an 42 (.iconst 1) 1, an 43 (.iload 5) 2, an 45 .ishl 1, an 46 (.iconst (-1)) 1, an 47 .ixor 1, an 48 .iand 1, al 49 (.invokestatic 306) 3 1 12 0 0, an 52 (.aload_n 0) 1, al 53 (.getfield 19) 3 20 11 44 0, an 56 (.iconst 4) 1, an 57 (.iload 5) 2, an 59 .imul 1, an 60 (.iconst 2) 1, an 61 .iadd 1, an 62 .iaload 1, an 63 (.if_icmp .lt 10) 3, an 66 (.iconst 1) 1, an 67 (.iload 5) 2, an 69 .ishl 1, an 70 (.goto 4) 3, an 73 (.iconst 0) 1, an 74 .ior 1, an 75 (.istore_n 3) 1, an 76 (.iinc 5 1) 3, an 79 (.goto (-58)) 3, an 82 (.goto (-73)) 3, an 85 (.iload_n 3) 1, an 86 .ireturn 1]
-- 266: BluesAndGreensModel.spark()I
def aC266 : List aN := [an 0 (.aload_n 0) 1, an 1 (.iconst 0) 1, al 2 (.putfield 77) 3 20 11 104 0, an 5 (.aload_n 0) 1, al 6 (.invokevirtual 332) 3 2 267 11 0, an 9 (.istore_n 1) 1, an 10 (.iconst 0) 1, an 11 (.istore_n 2) 1, an 12 (.iload_n 2) 1, an 13 (.aload_n 0) 1, al 14 (.invokevirtual 332) 3 2 267 11 0, an 17 (.if_icmp .ge 35) 3, an 20 (.iload_n 2) 1, al 21 (.invokestatic 306) 3 1 12 0 0, an 24 (.iload_n 1) 1, al 25 (.invokestatic 306) 3 1 12 0 0, an 28 (.if_icmp .ge 18) 3, an 31 (.aload_n 0) 1, an 32 (.iload_n 2) 1, an 33 (.iconst 0) 1, al 34 (.invokevirtual 329) 3 2 265 11 0, an 37 (.aload_n 0) 1, al 38 (.invokevirtual 332) 3 2 267 11 0, an 41 (.if_icmp .ne 5) 3, an 44 (.iload_n 2) 1, an 45 (.istore_n 1) 1, an 46 (.iinc 2 1) 3, an 49 (.goto (-37)) 3, an 52 (.aload_n 0) 1, an 53 (.iconst 0) 1, al 54 (.putfield 80) 3 20 11 96 0, an 57 (.aload_n 0) 1, an 58 (.iload_n 1) 1, an 59 .i2l 1, al 60 (.invokevirtual 267) 3 2 229 11 0, an 63 (.iload_n 1) 1, al 64 (.invokestatic 306) 3 1 12 0 0, an 67 .ireturn 1]
-- 267: BluesAndGreensModel.allQuarters()I
def aC267 : List aN := [an 0 (.iconst 1) 1, an 1 (.aload_n 0) 1, al 2 (.getfield 90) 3 20 11 32 0, an 5 .ishl 1, an 6 (.iconst 1) 1, an 7 .isub 1, an 8 .ireturn 1]
-- 268: BluesAndGreensModel.won(II)I
def aC268 : List aN := [an 0 (.aload_n 0) 1, an 1 (.iconst 0) 1, al 2 (.putfield 77) 3 20 11 104 0, an 5 (.aload_n 0) 1, an 6 (.iload_n 1) 1, al 7 (.invokevirtual 326) 3 2 264 11 0, an 10 (.ifCond .eq 13) 3, an 13 (.iload_n 2) 1, an 14 (.iconst 0) 1, an 15 (.bipush 8) 2, al 17 (.invokestatic 86) 3 1 181 0 0, an 20 (.ifCond .ne 5) 3, an 23 (.iconst (-1)) 1, an 24 .ireturn 1, an 25 (.aload_n 0) 1, al 26 (.invokevirtual 332) 3 2 267 11 0, an 29 (.istore_n 3) 1, an 30 (.iconst 0) 1, an 31 (.istore 4) 2, an 33 (.iload 4) 2, an 35 (.aload_n 0) 1, al 36 (.invokevirtual 332) 3 2 267 11 0, an 39 (.if_icmp .ge 38) 3, an 42 (.iload 4) 2, al 44 (.invokestatic 306) 3 1 12 0 0, an 47 (.iload_n 3) 1, al 48 (.invokestatic 306) 3 1 12 0 0, an 51 (.if_icmp .ge 20) 3, an 54 (.aload_n 0) 1, an 55 (.iload_n 1) 1, an 56 (.iload 4) 2, al 58 (.invokevirtual 329) 3 2 265 11 0, al 61 (.invokestatic 306) 3 1 12 0 0, an 64 (.iload_n 2) 1, an 65 (.if_icmp .gt 6) 3, an 68 (.iload 4) 2, an 70 (.istore_n 3) 1, an 71 (.iinc 4 1) 3, an 74 (.goto (-41)) 3, an 77 (.aload_n 0) 1, an 78 (.iconst 0) 1, al 79 (.putfield 80) 3 20 11 96 0, an 82 (.aload_n 0) 1, an 83 (.iload_n 3) 1, an 84 .i2l 1, al 85 (.invokevirtual 267) 3 2 229 11 0, an 88 (.iload_n 3) 1, al 89 (.invokestatic 306) 3 1 12 0 0, an 92 .ireturn 1]
-- 269: BluesAndGreensModel.gates(II)I
def aC269 : List aN := [an 0 (.aload_n 0) 1, an 1 (.iconst 0) 1, al 2 (.putfield 77) 3 20 11 104 0, an 5 (.aload_n 0) 1, an 6 (.iload_n 1) 1, al 7 (.invokevirtual 326) 3 2 264 11 0, an 10 (.ifCond .eq 13) 3, an 13 (.iload_n 2) 1, an 14 (.iconst 0) 1, an 15 (.bipush 9) 2, al 17 (.invokestatic 86) 3 1 181 0 0, an 20 (.ifCond .ne 5) 3, an 23 (.iconst (-1)) 1, an 24 .ireturn 1, an 25 (.iconst 0) 1, an 26 (.istore_n 3) 1, an 27 (.iconst 1) 1, an 28 (.istore 4) 2, an 30 (.iload 4) 2, an 32 (.sipush 512) 3, an 35 (.if_icmp .ge 70) 3, an 38 (.iload 4) 2, al 40 (.invokestatic 306) 3 1 12 0 0, an 43 (.iload_n 2) 1, an 44 (.if_icmp .le 6) 3, an 47 (.goto 52) 3, an 50 (.aload_n 0) 1, an 51 (.aload_n 0) 1, an 52 (.iload_n 1) 1, an 53 (.iload 4) 2, al 55 (.invokevirtual 335) 3 2 270 11 0, al 58 (.invokevirtual 216) 3 2 216 11 0, an 61 (.aload_n 0) 1, an 62 (.aload_n 0) 1, an 63 (.iload_n 1) 1, an 64 (.iload_n 3) 1, al 65 (.invokevirtual 335) 3 2 270 11 0, al 68 (.invokevirtual 216) 3 2 216 11 0, an 71 .isub 1, an 72 (.istore 5) 2, an 74 (.iload 5) 2, an 76 (.ifCond .gt 20) 3, an 79 (.iload 5) 2, an 81 (.ifCond .ne 18) 3, an 84 (.iload 4) 2, al 86 (.invokestatic 306) 3 1 12 0 0, an 89 (.iload_n 3) 1, al 90 (.invokestatic 306) 3 1 12 0 0, an 93 (.if_icmp .ge 6) 3, an 96 (.iload 4) 2, an 98 (.istore_n 3) 1, an 99 (.iinc 4 1) 3, an 102 (.goto (-72)) 3, an 105 (.aload_n 0) 1, an 106 (.iconst 0) 1, al 107 (.putfield 80) 3 20 11 96 0, an 110 (.aload_n 0) 1, an 111 (.iload_n 3) 1, an 112 .i2l 1, al 113 (.invokevirtual 267) 3 2 229 11 0, an 116 (.aload_n 0) 1, an 117 (.aload_n 0) 1, an 118 (.iload_n 1) 1, an 119 (.iload_n 3) 1, al 120 (.invokevirtual 335) 3 2 270 11 0, an 123 .i2l 1, al 124 (.invokevirtual 267) 3 2 229 11 0, an 127 (.aload_n 0) 1, an 128 (.aload_n 0) 1, an 129 (.iload_n 1) 1, an 130 (.iload_n 3) 1, al 131 (.invokevirtual 335) 3 2 270 11 0, al 134 (.invokevirtual 216) 3 2 216 11 0, an 137 .ireturn 1]
-- 270: BluesAndGreensModel.keptIn(II)I
def aC270 : List aN := [an 0 (.iconst 0) 1, an 1 (.istore_n 3) 1, an 2 (.iconst 0) 1, an 3 (.istore 4) 2, an 5 (.iload 4) 2, an 7 (.aload_n 0) 1, al 8 (.getfield 90) 3 20 11 32 0, an 11 (.if_icmp .ge 47) 3, an 14 (.iload_n 3) 1, an 15 (.iload_n 1) 1, an 16 (.iload 4) 2, al 18 (.invokestatic 203) 3 1 217 0 0, an 21 (.ifCond .eq 28) 3, an 24 (.aload_n 0) 1, al 25 (.getfield 19) 3 20 11 44 0, an 28 (.iconst 4) 1, an 29 (.iload 4) 2, an 31 .imul 1, an 32 (.iconst 3) 1, an 33 .iadd 1, an 34 .iaload 1, an 35 (.iload_n 2) 1, an 36 (.iconst (-1)) 1, an 37 .ixor 1, an 38 .iand 1, an 39 (.ifCond .ne 10) 3, an 42 (.iconst 1) 1, an 43 (.iload 4) 2, an 45 .ishl 1, an 46 (.goto 4) 3, an 49 (.iconst 0) 1, an 50 .ior 1, an 51 (.istore_n 3) 1, an 52 (.iinc 4 1) 3, an 55 (.goto (-50)) 3, an 58 (.iload_n 3) 1, an 59 .ireturn 1]
-- 271: BluesAndGreensModel.common(I)I
def aC271 : List aN := [an 0 (.aload_n 0) 1, an 1 (.iconst 0) 1, al 2 (.putfield 77) 3 20 11 104 0, an 5 (.aload_n 0) 1, an 6 (.iload_n 1) 1, al 7 (.invokevirtual 326) 3 2 264 11 0, an 10 (.ifCond .ne 5) 3, an 13 (.iconst (-1)) 1, an 14 .ireturn 1, an 15 (.sipush 511) 3, an 18 (.istore_n 2) 1, an 19 (.iconst 0) 1, an 20 (.istore_n 3) 1, an 21 (.iconst 0) 1, an 22 (.istore 4) 2, an 24 (.iload 4) 2, an 26 (.aload_n 0) 1, al 27 (.getfield 90) 3 20 11 32 0, an 30 (.if_icmp .ge 49) 3, an 33 (.iload_n 1) 1, an 34 (.iload 4) 2, al 36 (.invokestatic 203) 3 1 217 0 0, an 39 (.ifCond .ne 6) 3, an 42 (.goto 31) 3, an 45 (.iload_n 2) 1, an 46 (.aload_n 0) 1, al 47 (.getfield 19) 3 20 11 44 0, an 50 (.iconst 4) 1, an 51 (.iload 4) 2, an 53 .imul 1, an 54 (.iconst 3) 1, an 55 .iadd 1, an 56 .iaload 1, an 57 .iand 1, an 58 (.istore_n 2) 1, an 59 (.iload_n 3) 1, an 60 (.aload_n 0) 1, al 61 (.getfield 19) 3 20 11 44 0, an 64 (.iconst 4) 1, an 65 (.iload 4) 2, an 67 .imul 1, an 68 (.iconst 3) 1, an 69 .iadd 1, an 70 .iaload 1, an 71 .ior 1, an 72 (.istore_n 3) 1, an 73 (.iinc 4 1) 3, an 76 (.goto (-52)) 3, an 79 (.aload_n 0) 1, an 80 (.iconst 0) 1, al 81 (.putfield 80) 3 20 11 96 0, an 84 (.aload_n 0) 1, an 85 (.iload_n 3) 1, an 86 .i2l 1, al 87 (.invokevirtual 267) 3 2 229 11 0, an 90 (.iload_n 2) 1, an 91 .ireturn 1]
-- 272: BluesAndGreensModel.lots(III)I
def aC272 : List aN := [an 0 (.aload_n 0) 1, an 1 (.iconst 0) 1, al 2 (.putfield 77) 3 20 11 104 0, an 5 (.iload_n 1) 1, an 6 (.iconst 1) 1, an 7 (.bipush 12) 2, al 9 (.invokestatic 86) 3 1 181 0 0, an 12 (.ifCond .eq 23) 3, an 15 (.iload_n 2) 1, an 16 (.iconst 0) 1, an 17 (.bipush 12) 2, al 19 (.invokestatic 86) 3 1 181 0 0, an 22 (.ifCond .eq 13) 3, an 25 (.iload_n 3) 1, an 26 (.iconst 0) 1, an 27 (.bipush 10) 2, al 29 (.invokestatic 86) 3 1 181 0 0, an 32 (.ifCond .ne 5) 3, an 35 (.iconst (-1)) 1, an 36 .ireturn 1, an 37 (.lconst 1) 1, an 38 (.lstore 4) 2, an 40 (.iconst 0) 1, an 41 (.istore 6) 2, an 43 (.iload 6) 2, an 45 (.iload_n 2) 1, an 46 (.if_icmp .ge 25) 3, an 49 (.lload 4) 2, an 51 (.iload_n 1) 1, an 52 (.iload 6) 2, an 54 .isub 1, an 55 .i2l 1, an 56 .lmul 1, an 57 (.iload 6) 2, an 59 (.iconst 1) 1, an 60 .iadd 1, an 61 .i2l 1, an 62 .ldiv 1, an 63 (.lstore 4) 2, an 65 (.iinc 6 1) 3, an 68 (.goto (-25)) 3, an 71 (.aload_n 0) 1, an 72 (.iload_n 2) 1, an 73 (.iload_n 1) 1, an 74 (.if_icmp .le 7) 3, an 77 (.lconst 0) 1, an 78 (.goto 24) 3, an 81 (.lload 4) 2, an 83 (.iload_n 3) 1, an 84 .i2l 1, an 85 (.iload_n 2) 1, al 86 (.invokestatic 342) 3 1 273 0 0, an 89 .lmul 1, an 90 (.bipush 10) 2, an 92 (.iload_n 3) 1, an 93 .isub 1, an 94 .i2l 1, an 95 (.iload_n 1) 1, an 96 (.iload_n 2) 1, an 97 .isub 1, al 98 (.invokestatic 342) 3 1 273 0 0, an 101 .lmul 1, al 102 (.ldc2_w 346) 3 16 0 0 10, an 105 (.iload_n 1) 1, al 106 (.invokestatic 342) 3 1 273 0 0, al 109 (.invokevirtual 348) 3 2 274 11 0, an 112 (.iconst 0) 1, an 113 .ireturn 1]
-- 273: BluesAndGreensModel.power(JI)J
def aC273 : List aN := [an 0 (.lconst 1) 1, an 1 (.lstore_n 3) 1, an 2 (.iconst 0) 1, an 3 (.istore 5) 2, an 5 (.iload 5) 2, an 7 (.iload_n 2) 1, an 8 (.if_icmp .ge 13) 3, an 11 (.lload_n 3) 1, an 12 (.lload_n 0) 1, an 13 .lmul 1, an 14 (.lstore_n 3) 1, an 15 (.iinc 5 1) 3, an 18 (.goto (-13)) 3, an 21 (.lload_n 3) 1, an 22 .lreturn 1]
-- 274: BluesAndGreensModel.tellPart(JJ)V
def aC274 : List aN := [an 0 (.lload_n 1) 1, an 1 (.lload_n 3) 1, al 2 (.invokestatic 338) 3 1 275 0 0, an 5 (.lstore 5) 2, an 7 (.aload_n 0) 1, an 8 (.iconst 0) 1, al 9 (.putfield 80) 3 20 11 96 0, an 12 (.aload_n 0) 1, an 13 (.lload_n 1) 1, an 14 (.lload 5) 2, an 16 .ldiv 1, al 17 (.invokevirtual 267) 3 2 229 11 0, an 20 (.aload_n 0) 1, an 21 (.lload_n 3) 1, an 22 (.lload 5) 2, an 24 .ldiv 1, al 25 (.invokevirtual 267) 3 2 229 11 0, an 28 .return_ 1]
-- 275: BluesAndGreensModel.common2(JJ)J
def aC275 : List aN := [an 0 (.lload_n 2) 1, an 1 (.lconst 0) 1, an 2 .lcmp 1, an 3 (.ifCond .ne 7) 3, an 6 (.lload_n 0) 1, an 7 (.goto 10) 3, an 10 (.lload_n 2) 1, an 11 (.lload_n 0) 1, an 12 (.lload_n 2) 1, an 13 .lrem 1, al 14 (.invokestatic 338) 3 1 275 0 0, an 17 .lreturn 1]
-- 276: BluesAndGreensModel.bent(IIII)I
def aC276 : List aN := [an 0 (.aload_n 0) 1, an 1 (.iconst 0) 1, al 2 (.putfield 77) 3 20 11 104 0, an 5 (.iload_n 1) 1, an 6 (.iconst 0) 1, an 7 (.bipush 10) 2, al 9 (.invokestatic 86) 3 1 181 0 0, an 12 (.ifCond .eq 33) 3, an 15 (.iload_n 2) 1, an 16 (.iconst 0) 1, an 17 (.bipush 10) 2, al 19 (.invokestatic 86) 3 1 181 0 0, an 22 (.ifCond .eq 23) 3, an 25 (.iload_n 3) 1, an 26 (.iconst 0) 1, an 27 (.bipush 10) 2, al 29 (.invokestatic 86) 3 1 181 0 0, an 32 (.ifCond .eq 13) 3, an 35 (.iload 4) 2, an 37 (.iconst 0) 1, an 38 (.iload_n 3) 1, al 39 (.invokestatic 86) 3 1 181 0 0, an 42 (.ifCond .ne 5) 3, an 45 (.iconst (-1)) 1, an 46 .ireturn 1, an 47 (.iload_n 1) 1, an 48 .i2l 1, an 49 (.iload_n 2) 1, an 50 .i2l 1, an 51 (.iload 4) 2, al 53 (.invokestatic 342) 3 1 273 0 0, an 56 .lmul 1, an 57 (.bipush 10) 2, an 59 (.iload_n 2) 1, an 60 .isub 1, an 61 .i2l 1, an 62 (.iload_n 3) 1, an 63 (.iload 4) 2, an 65 .isub 1, al 66 (.invokestatic 342) 3 1 273 0 0, an 69 .lmul 1, an 70 (.lstore 5) 2, an 72 (.lload 5) 2, an 74 (.bipush 10) 2, an 76 (.iload_n 1) 1, an 77 .isub 1, an 78 .i2l 1, al 79 (.ldc2_w 352) 3 16 0 0 5, an 82 (.iload_n 3) 1, al 83 (.invokestatic 342) 3 1 273 0 0, an 86 .lmul 1, an 87 .ladd 1, an 88 (.lstore 7) 2, an 90 (.lload 7) 2, an 92 (.lconst 0) 1, an 93 .lcmp 1, an 94 (.ifCond .ne 6) 3, an 97 (.bipush (-2)) 2, an 99 .ireturn 1, an 100 (.aload_n 0) 1, an 101 (.lload 5) 2, an 103 (.lload 7) 2, al 105 (.invokevirtual 348) 3 2 274 11 0, an 108 (.iconst 0) 1, an 109 .ireturn 1]
-- 277: BluesAndGreensModel.heard(II)I
def aC277 : List aN := [an 0 (.aload_n 0) 1, an 1 (.iconst 0) 1, al 2 (.putfield 77) 3 20 11 104 0, an 5 (.iload_n 1) 1, an 6 (.ifCond .ne 7) 3, an 9 (.iconst 1) 1, an 10 (.goto 25) 3, an 13 (.iload_n 1) 1, an 14 (.iconst 1) 1, an 15 (.if_icmp .ne 8) 3, an 18 (.bipush 99) 2, an 20 (.goto 15) 3, an 23 (.iload_n 1) 1, an 24 (.iconst 2) 1, an 25 (.if_icmp .ne 8) 3, an 28 (.bipush 9) 2, an 30 (.goto 5) 3, an 33 (.bipush 8) 2, an 35 (.istore_n 3) 1, an 36 (.iload_n 1) 1, an 37 (.iconst 0) 1, an 38 (.iconst 4) 1, al 39 (.invokestatic 86) 3 1 181 0 0, an 42 (.ifCond .eq 21) 3, an 45 (.iload_n 2) 1, an 46 (.iconst 0) 1, an 47 (.iload_n 3) 1, al 48 (.invokestatic 86) 3 1 181 0 0, an 51 (.ifCond .eq 12) 3, an 54 (.aload_n 0) 1, al 55 (.getfield 354) 3 20 11 280 0, an 58 (.bipush 12) 2, an 60 (.if_icmp .ne 5) 3, an 63 (.iconst (-1)) 1, an 64 .ireturn 1, an 65 (.aload_n 0) 1, al 66 (.getfield 61) 3 20 11 268 0, an 69 (.aload_n 0) 1, al 70 (.getfield 354) 3 20 11 280 0, an 73 (.iload_n 1) 1, an 74 .iastore 1, an 75 (.aload_n 0) 1, al 76 (.getfield 64) 3 20 11 276 0, an 79 (.aload_n 0) 1, al 80 (.getfield 354) 3 20 11 280 0, an 83 (.iload_n 2) 1, an 84 .iastore 1, an 85 (.aload_n 0) 1, an 86 .dup 1, al 87 (.getfield 354) 3 20 11 280 0, an 90 (.iconst 1) 1, an 91 .iadd 1, al 92 (.putfield 354) 3 20 11 280 0, an 95 (.aload_n 0) 1, al 96 (.getfield 354) 3 20 11 280 0, an 99 .ireturn 1]
-- 278: BluesAndGreensModel.forget()I
def aC278 : List aN := [an 0 (.aload_n 0) 1, an 1 (.iconst 0) 1, al 2 (.putfield 77) 3 20 11 104 0, an 5 (.aload_n 0) 1, al 6 (.getfield 354) 3 20 11 280 0, an 9 (.istore_n 1) 1, an 10 (.aload_n 0) 1, an 11 (.iconst 0) 1, al 12 (.putfield 354) 3 20 11 280 0, an 15 (.iload_n 1) 1, an 16 .ireturn 1]
-- 279: BluesAndGreensModel.fits()I
def aC279 : List aN := [an 0 (.aload_n 0) 1, an 1 (.iconst 0) 1, al 2 (.putfield 77) 3 20 11 104 0, an 5 (.aload_n 0) 1, an 6 (.iconst 0) 1, al 7 (.putfield 80) 3 20 11 96 0, an 10 (.aload_n 0) 1, an 11 (.aload_n 0) 1, al 12 (.invokevirtual 360) 3 2 280 11 0, al 15 (.invokestatic 306) 3 1 12 0 0, an 18 .i2l 1, al 19 (.invokevirtual 267) 3 2 229 11 0, an 22 (.aload_n 0) 1, an 23 (.aload_n 0) 1, an 24 (.aload_n 0) 1, al 25 (.invokevirtual 360) 3 2 280 11 0, al 28 (.invokevirtual 216) 3 2 216 11 0, an 31 .i2l 1, al 32 (.invokevirtual 267) 3 2 229 11 0, an 35 (.aload_n 0) 1, al 36 (.invokevirtual 360) 3 2 280 11 0, an 39 .ireturn 1]
-- 280: BluesAndGreensModel.fitting()I
def aC280 : List aN := [an 0 (.iconst 0) 1, an 1 (.istore_n 1) 1, an 2 (.iconst 0) 1, an 3 (.istore_n 2) 1, an 4 (.iload_n 2) 1, an 5 (.aload_n 0) 1, al 6 (.getfield 90) 3 20 11 32 0, an 9 (.if_icmp .ge 75) 3, an 12 (.iconst 1) 1, an 13 (.istore_n 3) 1, an 14 (.iconst 0) 1, an 15 (.istore 4) 2, an 17 (.iload 4) 2, an 19 (.aload_n 0) 1, al 20 (.getfield 354) 3 20 11 280 0, an 23 (.if_icmp .ge 41) 3, an 26 (.iload_n 3) 1, an 27 (.ifCond .eq 29) 3, an 30 (.aload_n 0) 1, an 31 (.iload_n 2) 1, an 32 (.aload_n 0) 1, al 33 (.getfield 61) 3 20 11 268 0, an 36 (.iload 4) 2, an 38 .iaload 1, an 39 (.aload_n 0) 1, al 40 (.getfield 64) 3 20 11 276 0, an 43 (.iload 4) 2, an 45 .iaload 1, al 46 (.invokevirtual 357) 3 2 281 11 0, an 49 (.ifCond .eq 7) 3, an 52 (.iconst 1) 1, an 53 (.goto 4) 3, an 56 (.iconst 0) 1, an 57 (.istore_n 3) 1, an 58 (.iinc 4 1) 3, an 61 (.goto (-44)) 3, an 64 (.iload_n 1) 1, an 65 (.iload_n 3) 1, an 66 (.ifCond .eq 9) 3, an 69 (.iconst 1) 1, an 70 (.iload_n 2) 1, an 71 .ishl 1, an 72 (.goto 4) 3, an 75 (.iconst 0) 1, an 76 .ior 1, an 77 (.istore_n 1) 1, an 78 (.iinc 2 1) 3, an 81 (.goto (-77)) 3, an 84 (.iload_n 1) 1, an 85 .ireturn 1]
-- 281: BluesAndGreensModel.fits(III)Z
def aC281 : List aN := [an 0 (.iload_n 2) 1, an 1 (.tableswitch 106 0 3 #[31, 53, 71, 91]) 31, an 32 (.aload_n 0) 1, al 33 (.getfield 19) 3 20 11 44 0, an 36 (.iconst 4) 1, an 37 (.iload_n 1) 1, an 38 .imul 1, an 39 (.iconst 1) 1, an 40 .iadd 1, an 41 .iaload 1, an 42 (.iconst 1) 1, an 43 (.iload_n 3) 1, an 44 .isub 1, an 45 (.if_icmp .ne 7) 3, an 48 (.iconst 1) 1, an 49 (.goto 4) 3, an 52 (.iconst 0) 1, an 53 .ireturn 1, an 54 (.aload_n 0) 1, al 55 (.getfield 19) 3 20 11 44 0, an 58 (.iconst 4) 1, an 59 (.iload_n 1) 1, an 60 .imul 1, an 61 .iaload 1, an 62 (.iload_n 3) 1, an 63 (.if_icmp .lt 7) 3, an 66 (.iconst 1) 1, an 67 (.goto 4) 3, an 70 (.iconst 0) 1, an 71 .ireturn 1, an 72 (.aload_n 0) 1, al 73 (.getfield 19) 3 20 11 44 0, an 76 (.iconst 4) 1, an 77 (.iload_n 1) 1, an 78 .imul 1, an 79 (.iconst 2) 1, an 80 .iadd 1, an 81 .iaload 1, an 82 (.iload_n 3) 1, an 83 (.if_icmp .gt 7) 3, an 86 (.iconst 1) 1, an 87 (.goto 4) 3, an 90 (.iconst 0) 1, an 91 .ireturn 1, an 92 (.aload_n 0) 1, al 93 (.getfield 19) 3 20 11 44 0, an 96 (.iconst 4) 1, an 97 (.iload_n 1) 1, an 98 .imul 1, an 99 (.iconst 3) 1, an 100 .iadd 1, an 101 .iaload 1, an 102 (.iload_n 3) 1, al 103 (.invokestatic 203) 3 1 217 0 0, an 106 .ireturn 1, an 107 (.aload_n 0) 1, al 108 (.getfield 19) 3 20 11 44 0, an 111 (.iconst 4) 1, an 112 (.iload_n 1) 1, an 113 .imul 1, an 114 (.iconst 3) 1, an 115 .iadd 1, an 116 .iaload 1, an 117 (.iload_n 3) 1, al 118 (.invokestatic 203) 3 1 217 0 0, an 121 (.ifCond .ne 7) 3, an 124 (.iconst 1) 1, an 125 (.goto 4) 3, an 128 (.iconst 0) 1, an 129 .ireturn 1]
-- 282: BluesAndGreensModel.ask()I
def aC282 : List aN := [an 0 (.aload_n 0) 1, an 1 (.iconst 0) 1, al 2 (.putfield 77) 3 20 11 104 0, an 5 (.aload_n 0) 1, al 6 (.invokevirtual 360) 3 2 280 11 0, an 9 (.istore_n 1) 1, an 10 (.iload_n 1) 1, an 11 (.ifCond .ne 6) 3, an 14 (.bipush (-2)) 2, an 16 .ireturn 1, an 17 (.iconst (-1)) 1, an 18 (.istore_n 2) 1, al 19 (.ldc_w 363) 3 14 0 0 1000000, an 22 (.istore_n 3) 1, an 23 (.iconst 0) 1, an 24 (.istore 4) 2, an 26 (.iload 4) 2, an 28 (.bipush 9) 2, an 30 (.if_icmp .ge 90) 3, an 33 (.iconst 0) 1, an 34 (.istore 5) 2, an 36 (.iconst 0) 1, an 37 (.istore 6) 2, an 39 (.iload 6) 2, an 41 (.aload_n 0) 1, al 42 (.getfield 90) 3 20 11 32 0, an 45 (.if_icmp .ge 40) 3, an 48 (.iload 5) 2, an 50 (.iload_n 1) 1, an 51 (.iload 6) 2, al 53 (.invokestatic 203) 3 1 217 0 0, an 56 (.ifCond .eq 19) 3, an 59 (.aload_n 0) 1, an 60 (.iload 6) 2, an 62 (.iconst 3) 1, an 63 (.iload 4) 2, al 65 (.invokevirtual 357) 3 2 281 11 0, an 68 (.ifCond .eq 7) 3, an 71 (.iconst 1) 1, an 72 (.goto 4) 3, an 75 (.iconst 0) 1, an 76 .iadd 1, an 77 (.istore 5) 2, an 79 (.iinc 6 1) 3, an 82 (.goto (-43)) 3, an 85 (.iload 5) 2, an 87 (.iload_n 1) 1, al 88 (.invokestatic 306) 3 1 12 0 0, an 91 (.iload 5) 2, an 93 .isub 1, al 94 (.invokestatic 225) 3 17 0 0 0, an 97 (.istore 6) 2, an 99 (.iload 6) 2, an 101 (.iload_n 3) 1, an 102 (.if_icmp .lt 6) 3, an 105 (.goto 9) 3, an 108 (.iload 4) 2, an 110 (.istore_n 2) 1, an 111 (.iload 6) 2, an 113 (.istore_n 3) 1, an 114 (.iinc 4 1) 3, an 117 (.goto (-91)) 3, an 120 (.aload_n 0) 1, an 121 (.iconst 0) 1, al 122 (.putfield 80) 3 20 11 96 0, an 125 (.aload_n 0) 1, an 126 (.iload_n 3) 1, an 127 .i2l 1, al 128 (.invokevirtual 267) 3 2 229 11 0, an 131 (.iload_n 2) 1, an 132 .ireturn 1]
-- 283: BluesAndGreensModel.rests(II)I
def aC283 : List aN := [an 0 (.aload_n 0) 1, an 1 (.iconst 0) 1, al 2 (.putfield 77) 3 20 11 104 0, an 5 (.iload_n 1) 1, an 6 (.iconst 0) 1, an 7 (.bipush 9) 2, al 9 (.invokestatic 86) 3 1 181 0 0, an 12 (.ifCond .eq 13) 3, an 15 (.iload_n 2) 1, an 16 (.iconst 0) 1, an 17 (.bipush 9) 2, al 19 (.invokestatic 86) 3 1 181 0 0, an 22 (.ifCond .ne 5) 3, an 25 (.iconst (-1)) 1, an 26 .ireturn 1, an 27 (.iconst 0) 1, an 28 (.istore_n 3) 1, an 29 (.aload_n 0) 1, an 30 (.iconst 0) 1, al 31 (.putfield 80) 3 20 11 96 0, an 34 (.iconst 0) 1, an 35 (.istore 4) 2, an 37 (.iload 4) 2, an 39 (.bipush 9) 2, an 41 (.if_icmp .gt 61) 3, an 44 (.iconst 0) 1, an 45 (.istore 5) 2, an 47 (.iload 5) 2, an 49 (.bipush 9) 2, an 51 (.if_icmp .gt 45) 3, an 54 (.iload 4) 2, an 56 (.iload 5) 2, an 58 (.iload_n 1) 1, an 59 (.iload_n 2) 1, al 60 (.invokestatic 371) 3 1 284 0 0, an 63 (.ifCond .ne 6) 3, an 66 (.goto 24) 3, an 69 (.iload_n 3) 1, an 70 (.ifCond .ne 17) 3, an 73 (.aload_n 0) 1, an 74 (.iload 4) 2, an 76 .i2l 1, al 77 (.invokevirtual 267) 3 2 229 11 0, an 80 (.aload_n 0) 1, an 81 (.iload 5) 2, an 83 .i2l 1, al 84 (.invokevirtual 267) 3 2 229 11 0, an 87 (.iinc 3 1) 3, an 90 (.iinc 5 1) 3, an 93 (.goto (-46)) 3, an 96 (.iinc 4 1) 3, an 99 (.goto (-62)) 3, an 102 (.iload_n 3) 1, an 103 .ireturn 1]
-- 284: BluesAndGreensModel.isRest(IIII)Z
def aC284 : List aN := [an 0 (.iconst 0) 1, an 1 (.istore 4) 2, an 3 (.iload 4) 2, an 5 (.bipush 9) 2, an 7 (.if_icmp .gt 43) 3, an 10 (.iload 4) 2, an 12 (.iload_n 1) 1, an 13 (.iload_n 2) 1, al 14 (.invokestatic 364) 3 1 285 0 0, an 17 (.iload_n 0) 1, an 18 (.iload_n 1) 1, an 19 (.iload_n 2) 1, al 20 (.invokestatic 364) 3 1 285 0 0, an 23 (.if_icmp .gt 19) 3, an 26 (.iload_n 0) 1, an 27 (.iload 4) 2, an 29 (.iload_n 3) 1, al 30 (.invokestatic 368) 3 1 286 0 0, an 33 (.iload_n 0) 1, an 34 (.iload_n 1) 1, an 35 (.iload_n 3) 1, al 36 (.invokestatic 368) 3 1 286 0 0, an 39 (.if_icmp .le 5) 3, an 42 (.iconst 0) 1, an 43 .ireturn 1, an 44 (.iinc 4 1) 3, an 47 (.goto (-44)) 3, an 50 (.iconst 1) 1, an 51 .ireturn 1]
-- 285: BluesAndGreensModel.blueGets(III)I
def aC285 : List aN := [an 0 (.iload_n 0) 1, an 1 (.iload_n 1) 1, an 2 (.if_icmp .lt 9) 3, an 5 (.iload_n 2) 1, an 6 (.iload_n 1) 1, an 7 .isub 1, an 8 (.goto 4) 3, an 11 (.iconst 0) 1, an 12 .ireturn 1]
-- 286: BluesAndGreensModel.greenGets(III)I
def aC286 : List aN := [an 0 (.iload_n 1) 1, an 1 (.iload_n 0) 1, an 2 (.if_icmp .le 9) 3, an 5 (.iload_n 2) 1, an 6 (.iload_n 0) 1, an 7 .isub 1, an 8 (.goto 4) 3, an 11 (.iconst 0) 1, an 12 .ireturn 1]
-- 287: BluesAndGreensModel.law()I
def aC287 : List aN := [an 0 (.aload_n 0) 1, an 1 (.iconst 0) 1, al 2 (.putfield 77) 3 20 11 104 0, an 5 (.aload_n 0) 1, al 6 (.getfield 93) 3 20 11 80 0, an 9 (.istore_n 1) 1, an 10 (.aload_n 0) 1, al 11 (.invokevirtual 186) 3 2 199 11 0, an 14 (.ifCond .ne 12) 3, an 17 (.sipush (-10000)) 3, an 20 (.aload_n 0) 1, al 21 (.getfield 108) 3 20 11 144 0, an 24 .isub 1, an 25 .ireturn 1, an 26 (.aload_n 0) 1, al 27 (.getfield 83) 3 20 11 8 0, an 30 (.ifCond .ne 7) 3, an 33 (.sipush (-20000)) 3, an 36 .ireturn 1, an 37 (.aload_n 0) 1, an 38 (.bipush 20) 2, al 40 (.invokevirtual 375) 3 2 288 11 0, an 43 (.istore_n 2) 1, an 44 (.aload_n 0) 1, al 45 (.getfield 40) 3 20 11 164 0, an 48 (.astore_n 3) 1, an 49 (.aload_n 0) 1, al 50 (.getfield 189) 3 20 11 176 0, an 53 (.istore 4) 2, an 55 (.aload_n 0) 1, an 56 (.aload_n 0) 1, al 57 (.getfield 43) 3 20 11 172 0, al 60 (.putfield 40) 3 20 11 164 0, an 63 (.aload_n 0) 1, an 64 (.iload_n 1) 1, al 65 (.putfield 189) 3 20 11 176 0, an 68 (.iconst 0) 1, an 69 (.istore 5) 2, an 71 (.iload 5) 2, an 73 (.iload_n 1) 1, an 74 (.if_icmp .ge 23) 3, an 77 (.aload_n 0) 1, al 78 (.getfield 40) 3 20 11 164 0, an 81 (.iload 5) 2, an 83 (.aload_n 0) 1, al 84 (.getfield 29) 3 20 11 76 0, an 87 (.iload 5) 2, an 89 .baload 1, an 90 .bastore 1, an 91 (.iinc 5 1) 3, an 94 (.goto (-23)) 3, an 97 (.aload_n 0) 1, an 98 (.bipush 20) 2, al 100 (.invokevirtual 375) 3 2 288 11 0, an 103 (.istore 5) 2, an 105 (.aload_n 0) 1, an 106 (.aload_n 3) 1, al 107 (.putfield 40) 3 20 11 164 0, an 110 (.aload_n 0) 1, an 111 (.iload 4) 2, al 113 (.putfield 189) 3 20 11 176 0, an 116 (.aload_n 0) 1, an 117 (.iconst 0) 1, al 118 (.putfield 80) 3 20 11 96 0, an 121 (.aload_n 0) 1, an 122 (.iload 5) 2, an 124 .i2l 1, al 125 (.invokevirtual 267) 3 2 229 11 0, an 128 (.aload_n 0) 1, an 129 (.iload_n 2) 1, an 130 .i2l 1, al 131 (.invokevirtual 267) 3 2 229 11 0, an 134 (.iload 5) 2, an 136 (.iload_n 2) 1, an 137 .isub 1, an 138 .ireturn 1]
-- 288: BluesAndGreensModel.bluesOf(I)I
def aC288 : List aN := [an 0 (.aload_n 0) 1, al 1 (.getfield 9) 3 20 11 4 0, an 4 (.aload_n 0) 1, al 5 (.getfield 55) 3 20 11 228 0, an 8 (.iconst 0) 1, al 9 (.invokestatic 228) 3 1 222 0 0, an 12 (.aload_n 0) 1, an 13 (.aload_n 0) 1, al 14 (.getfield 55) 3 20 11 228 0, an 17 (.iload_n 1) 1, al 18 (.invokevirtual 263) 3 2 223 11 0, an 21 (.aload_n 0) 1, al 22 (.getfield 243) 3 20 11 232 0, an 25 .ireturn 1]
-- 289: BluesAndGreensModel.years(II)I
def aC289_0 : List aN := [an 0 (.aload_n 0) 1, an 1 (.iconst 0) 1, al 2 (.putfield 77) 3 20 11 104 0, an 5 (.aload_n 0) 1, al 6 (.getfield 83) 3 20 11 8 0, an 9 (.ifCond .ne 6) 3, an 12 (.bipush (-2)) 2, an 14 .ireturn 1, an 15 (.iload_n 2) 1, an 16 (.iconst 1) 1, an 17 (.bipush 60) 2, al 19 (.invokestatic 86) 3 1 181 0 0, an 22 (.ifCond .ne 5) 3, an 25 (.iconst (-1)) 1, an 26 .ireturn 1, an 27 (.aload_n 0) 1, an 28 (.iload_n 1) 1, al 29 (.putfield 378) 3 20 11 288 0, an 32 (.iconst 0) 1, an 33 (.istore_n 3) 1, an 34 (.iconst 0) 1, an 35 (.istore 4) 2, an 37 (.aload_n 0) 1, al 38 (.getfield 9) 3 20 11 4 0, an 41 (.aload_n 0) 1, al 42 (.getfield 55) 3 20 11 228 0, an 45 (.iconst 0) 1, al 46 (.invokestatic 228) 3 1 222 0 0, an 49 (.iconst 0) 1, an 50 (.istore 5) 2, an 52 (.iload 5) 2, an 54 (.iload_n 2) 1, an 55 (.if_icmp .ge 140) 3, an 58 (.aload_n 0) 1, an 59 (.iconst 4) 1, al 60 (.invokevirtual 382) 3 2 290 11 0, an 63 (.istore 6) 2, an 65 (.iload 6) 2, an 67 (.iconst 2) 1, an 68 (.if_icmp .ge 30) 3, an 71 (.iload_n 3) 1, an 72 (.aload_n 0) 1, al 73 (.getfield 55) 3 20 11 228 0, an 76 (.bipush 6) 2, an 78 (.aload_n 0) 1, an 79 (.aload_n 0) 1, al 80 (.getfield 55) 3 20 11 228 0, al 83 (.invokevirtual 252) 3 2 224 11 0, an 86 .iadd 1, an 87 .iaload 1, an 88 (.ifCond .ne 7) 3, an 91 (.iconst 1) 1, an 92 (.goto 4) 3, an 95 (.iconst 0) 1, an 96 .iadd 1, an 97 (.istore_n 3) 1, an 98 (.iload 6) 2, an 100 (.iconst 2) 1, an 101 (.if_icmp .ne 47) 3, an 104 (.aload_n 0) 1, an 105 (.iconst 2) 1, al 106 (.invokevirtual 382) 3 2 290 11 0, an 109 (.istore 7) 2, an 111 (.aload_n 0) 1, an 112 (.aload_n 0) 1, al 113 (.getfield 83) 3 20 11 8 0, al 116 (.invokevirtual 382) 3 2 290 11 0, an 119 (.istore 8) 2, an 121 (.aload_n 0) 1, an 122 (.aload_n 0) 1, al 123 (.getfield 55) 3 20 11 228 0, an 126 (.iload 7) 2, an 128 (.iload 8) 2, al 130 (.invokevirtual 271) 3 2 231 11 0, an 133 (.ifCond .ne 15) 3, an 136 (.aload_n 0) 1, an 137 (.aload_n 0) 1, al 138 (.getfield 55) 3 20 11 228 0, an 141 (.iload 7) 2, an 143 (.iload 8) 2, al 145 (.invokevirtual 275) 3 2 232 11 0, an 148 (.iload 6) 2, an 150 (.iconst 3) 1, an 151 (.if_icmp .ne 17) 3, an 154 (.aload_n 0) 1, al 155 (.getfield 55) 3 20 11 228 0, an 158 (.aload_n 0) 1, an 159 (.iconst 2) 1, al 160 (.invokevirtual 382) 3 2 290 11 0, an 163 (.bipush (-5)) 2, al 165 (.invokestatic 240) 3 1 227 0 0, an 168 (.iload 4) 2, an 170 (.aload_n 0) 1, an 171 (.aload_n 0) 1, al 172 (.getfield 55) 3 20 11 228 0, al 175 (.invokevirtual 255) 3 2 228 11 0, an 178 (.ifCond .eq 7) 3, an 181 (.iconst 1) 1, an 182 (.goto 4) 3, an 185 (.iconst 0) 1]
def aC289_1 : List aN := [an 186 .iadd 1, an 187 (.istore 4) 2, an 189 (.iinc 5 1) 3, an 192 (.goto (-140)) 3, an 195 (.aload_n 0) 1, an 196 (.iconst 0) 1, al 197 (.putfield 80) 3 20 11 96 0, an 200 (.aload_n 0) 1, an 201 (.aload_n 0) 1, al 202 (.getfield 55) 3 20 11 228 0, an 205 (.iconst 0) 1, an 206 .iaload 1, an 207 .i2l 1, al 208 (.invokevirtual 267) 3 2 229 11 0, an 211 (.aload_n 0) 1, an 212 (.aload_n 0) 1, al 213 (.getfield 55) 3 20 11 228 0, an 216 (.iconst 1) 1, an 217 .iaload 1, an 218 .i2l 1, al 219 (.invokevirtual 267) 3 2 229 11 0, an 222 (.aload_n 0) 1, an 223 (.iload 4) 2, an 225 .i2l 1, al 226 (.invokevirtual 267) 3 2 229 11 0, an 229 (.iload_n 3) 1, an 230 .ireturn 1]
def aC289 : List aN := aC289_0 ++ (aC289_1)
-- 290: BluesAndGreensModel.draw(I)I
def aC290 : List aN := [an 0 (.aload_n 0) 1, an 1 (.aload_n 0) 1, al 2 (.getfield 378) 3 20 11 288 0, al 5 (.ldc_w 381) 3 14 0 0 1103515245, an 8 .imul 1, an 9 (.sipush 12345) 3, an 12 .iadd 1, al 13 (.putfield 378) 3 20 11 288 0, an 16 (.aload_n 0) 1, al 17 (.getfield 378) 3 20 11 288 0, an 20 (.bipush 16) 2, an 22 .iushr 1, an 23 (.iload_n 1) 1, an 24 .irem 1, an 25 .ireturn 1]
-- 291: BluesAndGreensModel.keep(I)Z
def aC291 : List aN := [an 0 (.aload_n 0) 1, an 1 (.iconst 0) 1, al 2 (.putfield 77) 3 20 11 104 0, an 5 (.iload_n 1) 1, an 6 (.iconst 0) 1, an 7 (.iconst 1) 1, al 8 (.invokestatic 86) 3 1 181 0 0, an 11 (.ifCond .ne 5) 3, an 14 (.iconst 0) 1, an 15 .ireturn 1, an 16 (.aload_n 0) 1, al 17 (.getfield 70) 3 20 11 316 0, an 20 (.iload_n 1) 1, an 21 (.iconst 1) 1, an 22 .bastore 1, an 23 (.aload_n 0) 1, al 24 (.getfield 74) 3 20 11 324 0, an 27 (.iload_n 1) 1, an 28 (.aload_n 0) 1, al 29 (.getfield 142) 3 20 11 296 0, an 32 .iastore 1, an 33 (.aload_n 0) 1, al 34 (.getfield 9) 3 20 11 4 0, an 37 (.aload_n 0) 1, al 38 (.getfield 67) 3 20 11 308 0, an 41 (.bipush 39) 2, an 43 (.iload_n 1) 1, an 44 .imul 1, al 45 (.invokestatic 228) 3 1 222 0 0, an 48 (.iconst 1) 1, an 49 .ireturn 1]
-- 292: BluesAndGreensModel.again(I)Z
def aC292 : List aN := [an 0 (.aload_n 0) 1, an 1 (.iconst 0) 1, al 2 (.putfield 77) 3 20 11 104 0, an 5 (.iload_n 1) 1, an 6 (.iconst 0) 1, an 7 (.iconst 1) 1, al 8 (.invokestatic 86) 3 1 181 0 0, an 11 (.ifCond .eq 25) 3, an 14 (.aload_n 0) 1, al 15 (.getfield 70) 3 20 11 316 0, an 18 (.iload_n 1) 1, an 19 .baload 1, an 20 (.ifCond .eq 16) 3, an 23 (.aload_n 0) 1, al 24 (.getfield 74) 3 20 11 324 0, an 27 (.iload_n 1) 1, an 28 .iaload 1, an 29 (.aload_n 0) 1, al 30 (.getfield 142) 3 20 11 296 0, an 33 (.if_icmp .eq 5) 3, an 36 (.iconst 0) 1, an 37 .ireturn 1, an 38 (.iconst 0) 1, an 39 (.istore_n 2) 1, an 40 (.iload_n 2) 1, an 41 (.bipush 39) 2, an 43 (.if_icmp .ge 26) 3, an 46 (.aload_n 0) 1, al 47 (.getfield 9) 3 20 11 4 0, an 50 (.iload_n 2) 1, an 51 (.aload_n 0) 1, al 52 (.getfield 67) 3 20 11 308 0, an 55 (.bipush 39) 2, an 57 (.iload_n 1) 1, an 58 .imul 1, an 59 (.iload_n 2) 1, an 60 .iadd 1, an 61 .iaload 1, an 62 .iastore 1, an 63 (.iinc 2 1) 3, an 66 (.goto (-26)) 3, an 69 (.aload_n 0) 1, an 70 (.iconst 0) 1, al 71 (.putfield 139) 3 20 11 208 0, an 74 (.iconst 1) 1, an 75 .ireturn 1]
-- 293: BluesAndGreensModel.count(I)I
def aC293 : List aN := [an 0 (.aload_n 0) 1, an 1 (.iconst 0) 1, al 2 (.putfield 77) 3 20 11 104 0, an 5 (.iload_n 1) 1, an 6 (.tableswitch 148 0 11 #[62, 67, 72, 77, 82, 90, 107, 112, 128, 133, 138, 143]) 62, an 68 (.aload_n 0) 1, al 69 (.getfield 83) 3 20 11 8 0, an 72 .ireturn 1, an 73 (.aload_n 0) 1, al 74 (.getfield 90) 3 20 11 32 0, an 77 .ireturn 1, an 78 (.aload_n 0) 1, al 79 (.getfield 164) 3 20 11 48 0, an 82 .ireturn 1, an 83 (.aload_n 0) 1, al 84 (.getfield 25) 3 20 11 64 0, an 87 .ireturn 1, an 88 (.aload_n 0) 1, al 89 (.getfield 9) 3 20 11 4 0, an 92 (.bipush 38) 2, an 94 .iaload 1, an 95 .ireturn 1, an 96 (.aload_n 0) 1, an 97 (.aload_n 0) 1, al 98 (.getfield 9) 3 20 11 4 0, al 101 (.invokevirtual 255) 3 2 228 11 0, an 104 (.ifCond .eq 7) 3, an 107 (.iconst 1) 1, an 108 (.goto 4) 3, an 111 (.iconst 0) 1, an 112 .ireturn 1, an 113 (.aload_n 0) 1, al 114 (.invokevirtual 385) 3 2 294 11 0, an 117 .ireturn 1, an 118 (.iconst 1) 1, an 119 (.aload_n 0) 1, al 120 (.getfield 164) 3 20 11 48 0, an 123 .ishl 1, an 124 (.iconst 1) 1, an 125 .isub 1, an 126 (.aload_n 0) 1, al 127 (.invokevirtual 317) 3 2 257 11 0, an 130 (.iconst (-1)) 1, an 131 .ixor 1, an 132 .iand 1, an 133 .ireturn 1, an 134 (.aload_n 0) 1, al 135 (.getfield 354) 3 20 11 280 0, an 138 .ireturn 1, an 139 (.aload_n 0) 1, al 140 (.getfield 139) 3 20 11 208 0, an 143 .ireturn 1, an 144 (.aload_n 0) 1, al 145 (.getfield 80) 3 20 11 96 0, an 148 .ireturn 1, an 149 (.aload_n 0) 1, al 150 (.getfield 93) 3 20 11 80 0, an 153 .ireturn 1, an 154 (.iconst (-1)) 1, an 155 .ireturn 1]
-- 294: BluesAndGreensModel.cursedBits()I
def aC294 : List aN := [an 0 (.iconst 0) 1, an 1 (.istore_n 1) 1, an 2 (.iconst 0) 1, an 3 (.istore_n 2) 1, an 4 (.iload_n 2) 1, an 5 (.aload_n 0) 1, al 6 (.getfield 83) 3 20 11 8 0, an 9 (.if_icmp .ge 23) 3, an 12 (.iload_n 1) 1, an 13 (.aload_n 0) 1, al 14 (.getfield 9) 3 20 11 4 0, an 17 (.bipush 14) 2, an 19 (.iload_n 2) 1, an 20 .iadd 1, an 21 .iaload 1, an 22 (.iload_n 2) 1, an 23 .ishl 1, an 24 .ior 1, an 25 (.istore_n 1) 1, an 26 (.iinc 2 1) 3, an 29 (.goto (-25)) 3, an 32 (.iload_n 1) 1, an 33 .ireturn 1]
-- 295: BluesAndGreensModel.row(I)J
def aC295 : List aN := [an 0 (.aload_n 0) 1, an 1 (.iconst 0) 1, al 2 (.putfield 77) 3 20 11 104 0, an 5 (.iload_n 1) 1, an 6 (.iconst 0) 1, an 7 (.aload_n 0) 1, al 8 (.getfield 80) 3 20 11 96 0, an 11 (.iconst 1) 1, an 12 .isub 1, al 13 (.invokestatic 86) 3 1 181 0 0, an 16 (.ifCond .eq 12) 3, an 19 (.aload_n 0) 1, al 20 (.getfield 33) 3 20 11 92 0, an 23 (.iload_n 1) 1, an 24 .laload 1, an 25 (.goto 8) 3, an 28 (.aload_n 0) 1, al 29 (.invokevirtual 196) 3 2 207 11 0, an 32 .i2l 1, an 33 .lreturn 1]
-- 296: BluesAndGreensLaw.law([I)Z
def aC296_0 : List aN := [al 0 (.new 8) 3 12 10 16 0, an 3 .dup 1, al 4 (.invokespecial 32) 3 3 13 10 0, an 7 (.astore_n 1) 1, al 8 (.new 33) 3 12 11 41 0, an 11 .dup 1, al 12 (.invokespecial 35) 3 3 177 11 0, an 15 (.astore_n 2) 1, an 16 (.iconst 1) 1, an 17 (.newarray .long) 2, an 19 (.astore_n 3) 1, an 20 (.iconst 0) 1, an 21 (.istore 4) 2, an 23 (.iload 4) 2, an 25 (.aload_n 0) 1, an 26 .arraylength 1, an 27 (.iconst 5) 1, an 28 .isub 1, an 29 (.if_icmp .gt 1683) 3, an 32 (.aload_n 0) 1, an 33 (.iload 4) 2, an 35 .iaload 1, an 36 (.bipush 63) 2, an 38 .iand 1, an 39 (.tableswitch 1667 0 48 #[209, 234, 259, 272, 285, 298, 311, 379, 435, 503, 571, 639, 664, 725, 750, 787, 824, 849, 886, 923, 936, 949, 962, 987, 1000, 1025, 1050, 1075, 1088, 1101, 1114, 1127, 1152, 1165, 1202, 1239, 1264, 1313, 1374, 1411, 1424, 1437, 1450, 1487, 1500, 1537, 1562, 1587, 1612]) 209, an 248 (.aload_n 1) 1, an 249 (.aload_n 0) 1, an 250 (.iload 4) 2, an 252 (.iconst 1) 1, an 253 .iadd 1, an 254 .iaload 1, al 255 (.invokevirtual 36) 3 2 43 10 0, an 258 (.aload_n 2) 1, an 259 (.aload_n 0) 1, an 260 (.iload 4) 2, an 262 (.iconst 1) 1, an 263 .iadd 1, an 264 .iaload 1, al 265 (.invokevirtual 39) 3 2 179 11 0, an 268 (.if_icmp .eq 1438) 3, an 271 (.iconst 0) 1, an 272 .ireturn 1, an 273 (.aload_n 1) 1, an 274 (.aload_n 0) 1, an 275 (.iload 4) 2, an 277 (.iconst 1) 1, an 278 .iadd 1, an 279 .iaload 1, al 280 (.invokevirtual 40) 3 2 45 10 0, an 283 (.aload_n 2) 1, an 284 (.aload_n 0) 1, an 285 (.iload 4) 2, an 287 (.iconst 1) 1, an 288 .iadd 1, an 289 .iaload 1, al 290 (.invokevirtual 44) 3 2 180 11 0, an 293 (.if_icmp .eq 1413) 3, an 296 (.iconst 0) 1, an 297 .ireturn 1, an 298 (.aload_n 1) 1, al 299 (.invokevirtual 45) 3 2 46 10 0, an 302 (.aload_n 2) 1, al 303 (.invokevirtual 49) 3 2 182 11 0, an 306 (.if_icmp .eq 1400) 3, an 309 (.iconst 0) 1, an 310 .ireturn 1, an 311 (.aload_n 1) 1, al 312 (.invokevirtual 50) 3 2 55 10 0, an 315 (.aload_n 2) 1, al 316 (.invokevirtual 53) 3 2 195 11 0, an 319 (.if_icmp .eq 1387) 3, an 322 (.iconst 0) 1, an 323 .ireturn 1, an 324 (.aload_n 1) 1, al 325 (.invokevirtual 54) 3 2 56 10 0, an 328 (.aload_n 2) 1, al 329 (.invokevirtual 57) 3 2 197 11 0, an 332 (.if_icmp .eq 1374) 3, an 335 (.iconst 0) 1, an 336 .ireturn 1, an 337 (.aload_n 1) 1, al 338 (.invokevirtual 58) 3 2 57 10 0, an 341 (.aload_n 2) 1, al 342 (.invokevirtual 61) 3 2 198 11 0, an 345 (.if_icmp .eq 1361) 3, an 348 (.iconst 0) 1, an 349 .ireturn 1, an 350 (.aload_n 1) 1, an 351 (.aload_n 0) 1, an 352 (.iload 4) 2, an 354 (.iconst 1) 1, an 355 .iadd 1, an 356 .iaload 1, an 357 (.aload_n 0) 1, an 358 (.iload 4) 2, an 360 (.iconst 2) 1, an 361 .iadd 1, an 362 .iaload 1, an 363 (.aload_n 3) 1, al 364 (.invokestatic 62) 3 1 297 0 0]
def aC296_1 : List aN := [an 367 (.istore 5) 2, an 369 (.aload_n 2) 1, an 370 (.aload_n 0) 1, an 371 (.iload 4) 2, an 373 (.iconst 1) 1, an 374 .iadd 1, an 375 .iaload 1, an 376 (.aload_n 0) 1, an 377 (.iload 4) 2, an 379 (.iconst 2) 1, an 380 .iadd 1, an 381 .iaload 1, al 382 (.invokevirtual 67) 3 2 205 11 0, an 385 (.istore 6) 2, an 387 (.aload_n 2) 1, al 388 (.invokevirtual 68) 3 2 178 11 0, an 391 (.iload 5) 2, an 393 (.if_icmp .eq 5) 3, an 396 (.iconst 0) 1, an 397 .ireturn 1, an 398 (.iload 5) 2, an 400 (.ifCond .ne 15) 3, an 403 (.aload_n 3) 1, an 404 (.iconst 0) 1, an 405 .laload 1, an 406 (.iload 6) 2, an 408 .i2l 1, an 409 .lcmp 1, an 410 (.ifCond .eq 5) 3, an 413 (.iconst 0) 1, an 414 .ireturn 1, an 415 (.goto 1291) 3, an 418 (.aload_n 1) 1, an 419 (.aload_n 0) 1, an 420 (.iload 4) 2, an 422 (.iconst 1) 1, an 423 .iadd 1, an 424 .iaload 1, an 425 (.aload_n 3) 1, al 426 (.invokestatic 71) 3 1 298 0 0, an 429 (.istore 5) 2, an 431 (.aload_n 2) 1, an 432 (.aload_n 0) 1, an 433 (.iload 4) 2, an 435 (.iconst 1) 1, an 436 .iadd 1, an 437 .iaload 1, al 438 (.invokevirtual 74) 3 2 208 11 0, an 441 (.istore 6) 2, an 443 (.aload_n 2) 1, al 444 (.invokevirtual 68) 3 2 178 11 0, an 447 (.iload 5) 2, an 449 (.if_icmp .eq 5) 3, an 452 (.iconst 0) 1, an 453 .ireturn 1, an 454 (.iload 5) 2, an 456 (.ifCond .ne 15) 3, an 459 (.aload_n 3) 1, an 460 (.iconst 0) 1, an 461 .laload 1, an 462 (.iload 6) 2, an 464 .i2l 1, an 465 .lcmp 1, an 466 (.ifCond .eq 5) 3, an 469 (.iconst 0) 1, an 470 .ireturn 1, an 471 (.goto 1235) 3, an 474 (.aload_n 1) 1, an 475 (.aload_n 0) 1, an 476 (.iload 4) 2, an 478 (.iconst 1) 1, an 479 .iadd 1, an 480 .iaload 1, an 481 (.aload_n 0) 1, an 482 (.iload 4) 2, an 484 (.iconst 2) 1, an 485 .iadd 1, an 486 .iaload 1, an 487 (.aload_n 3) 1, al 488 (.invokestatic 75) 3 1 299 0 0, an 491 (.istore 5) 2, an 493 (.aload_n 2) 1, an 494 (.aload_n 0) 1, an 495 (.iload 4) 2, an 497 (.iconst 1) 1, an 498 .iadd 1, an 499 .iaload 1, an 500 (.aload_n 0) 1, an 501 (.iload 4) 2, an 503 (.iconst 2) 1, an 504 .iadd 1, an 505 .iaload 1, al 506 (.invokevirtual 77) 3 2 210 11 0, an 509 (.istore 6) 2, an 511 (.aload_n 2) 1, al 512 (.invokevirtual 68) 3 2 178 11 0, an 515 (.iload 5) 2, an 517 (.if_icmp .eq 5) 3, an 520 (.iconst 0) 1, an 521 .ireturn 1]
def aC296_2 : List aN := [an 522 (.iload 5) 2, an 524 (.ifCond .ne 15) 3, an 527 (.aload_n 3) 1, an 528 (.iconst 0) 1, an 529 .laload 1, an 530 (.iload 6) 2, an 532 .i2l 1, an 533 .lcmp 1, an 534 (.ifCond .eq 5) 3, an 537 (.iconst 0) 1, an 538 .ireturn 1, an 539 (.goto 1167) 3, an 542 (.aload_n 1) 1, an 543 (.aload_n 0) 1, an 544 (.iload 4) 2, an 546 (.iconst 1) 1, an 547 .iadd 1, an 548 .iaload 1, an 549 (.aload_n 0) 1, an 550 (.iload 4) 2, an 552 (.iconst 2) 1, an 553 .iadd 1, an 554 .iaload 1, an 555 (.aload_n 3) 1, al 556 (.invokestatic 78) 3 1 300 0 0, an 559 (.istore 5) 2, an 561 (.aload_n 2) 1, an 562 (.aload_n 0) 1, an 563 (.iload 4) 2, an 565 (.iconst 1) 1, an 566 .iadd 1, an 567 .iaload 1, an 568 (.aload_n 0) 1, an 569 (.iload 4) 2, an 571 (.iconst 2) 1, an 572 .iadd 1, an 573 .iaload 1, al 574 (.invokevirtual 80) 3 2 211 11 0, an 577 (.istore 6) 2, an 579 (.aload_n 2) 1, al 580 (.invokevirtual 68) 3 2 178 11 0, an 583 (.iload 5) 2, an 585 (.if_icmp .eq 5) 3, an 588 (.iconst 0) 1, an 589 .ireturn 1, an 590 (.iload 5) 2, an 592 (.ifCond .ne 15) 3, an 595 (.aload_n 3) 1, an 596 (.iconst 0) 1, an 597 .laload 1, an 598 (.iload 6) 2, an 600 .i2l 1, an 601 .lcmp 1, an 602 (.ifCond .eq 5) 3, an 605 (.iconst 0) 1, an 606 .ireturn 1, an 607 (.goto 1099) 3, an 610 (.aload_n 1) 1, an 611 (.aload_n 0) 1, an 612 (.iload 4) 2, an 614 (.iconst 1) 1, an 615 .iadd 1, an 616 .iaload 1, an 617 (.aload_n 0) 1, an 618 (.iload 4) 2, an 620 (.iconst 2) 1, an 621 .iadd 1, an 622 .iaload 1, an 623 (.aload_n 3) 1, al 624 (.invokestatic 81) 3 1 301 0 0, an 627 (.istore 5) 2, an 629 (.aload_n 2) 1, an 630 (.aload_n 0) 1, an 631 (.iload 4) 2, an 633 (.iconst 1) 1, an 634 .iadd 1, an 635 .iaload 1, an 636 (.aload_n 0) 1, an 637 (.iload 4) 2, an 639 (.iconst 2) 1, an 640 .iadd 1, an 641 .iaload 1, al 642 (.invokevirtual 83) 3 2 212 11 0, an 645 (.istore 6) 2, an 647 (.aload_n 2) 1, al 648 (.invokevirtual 68) 3 2 178 11 0, an 651 (.iload 5) 2, an 653 (.if_icmp .eq 5) 3, an 656 (.iconst 0) 1, an 657 .ireturn 1, an 658 (.iload 5) 2, an 660 (.ifCond .ne 15) 3, an 663 (.aload_n 3) 1, an 664 (.iconst 0) 1, an 665 .laload 1, an 666 (.iload 6) 2, an 668 .i2l 1, an 669 .lcmp 1, an 670 (.ifCond .eq 5) 3, an 673 (.iconst 0) 1]
def aC296_3 : List aN := [an 674 .ireturn 1, an 675 (.goto 1031) 3, an 678 (.aload_n 1) 1, an 679 (.aload_n 0) 1, an 680 (.iload 4) 2, an 682 (.iconst 1) 1, an 683 .iadd 1, an 684 .iaload 1, al 685 (.invokevirtual 84) 3 2 59 10 0, an 688 (.aload_n 2) 1, an 689 (.aload_n 0) 1, an 690 (.iload 4) 2, an 692 (.iconst 1) 1, an 693 .iadd 1, an 694 .iaload 1, al 695 (.invokevirtual 87) 3 2 218 11 0, an 698 (.if_icmp .eq 1008) 3, an 701 (.iconst 0) 1, an 702 .ireturn 1, an 703 (.aload_n 1) 1, an 704 (.aload_n 0) 1, an 705 (.iload 4) 2, an 707 (.iconst 1) 1, an 708 .iadd 1, an 709 .iaload 1, an 710 (.aload_n 0) 1, an 711 (.iload 4) 2, an 713 (.iconst 2) 1, an 714 .iadd 1, an 715 .iaload 1, an 716 (.aload_n 0) 1, an 717 (.iload 4) 2, an 719 (.iconst 3) 1, an 720 .iadd 1, an 721 .iaload 1, an 722 (.aload_n 0) 1, an 723 (.iload 4) 2, an 725 (.iconst 4) 1, an 726 .iadd 1, an 727 .iaload 1, al 728 (.invokevirtual 88) 3 2 60 10 0, an 731 (.aload_n 2) 1, an 732 (.aload_n 0) 1, an 733 (.iload 4) 2, an 735 (.iconst 1) 1, an 736 .iadd 1, an 737 .iaload 1, an 738 (.aload_n 0) 1, an 739 (.iload 4) 2, an 741 (.iconst 2) 1, an 742 .iadd 1, an 743 .iaload 1, an 744 (.aload_n 0) 1, an 745 (.iload 4) 2, an 747 (.iconst 3) 1, an 748 .iadd 1, an 749 .iaload 1, an 750 (.aload_n 0) 1, an 751 (.iload 4) 2, an 753 (.iconst 4) 1, an 754 .iadd 1, an 755 .iaload 1, al 756 (.invokevirtual 92) 3 2 219 11 0, an 759 (.if_icmp .eq 947) 3, an 762 (.iconst 0) 1, an 763 .ireturn 1, an 764 (.aload_n 1) 1, an 765 (.aload_n 0) 1, an 766 (.iload 4) 2, an 768 (.iconst 1) 1, an 769 .iadd 1, an 770 .iaload 1, al 771 (.invokevirtual 93) 3 2 62 10 0, an 774 (.aload_n 2) 1, an 775 (.aload_n 0) 1, an 776 (.iload 4) 2, an 778 (.iconst 1) 1, an 779 .iadd 1, an 780 .iaload 1, al 781 (.invokevirtual 96) 3 2 220 11 0, an 784 (.if_icmp .eq 922) 3, an 787 (.iconst 0) 1, an 788 .ireturn 1, an 789 (.aload_n 1) 1, an 790 (.aload_n 0) 1, an 791 (.iload 4) 2, an 793 (.iconst 1) 1, an 794 .iadd 1, an 795 .iaload 1, an 796 (.aload_n 0) 1, an 797 (.iload 4) 2, an 799 (.iconst 2) 1, an 800 .iadd 1, an 801 .iaload 1, al 802 (.invokevirtual 97) 3 2 86 10 0, an 805 (.aload_n 2) 1, an 806 (.aload_n 0) 1, an 807 (.iload 4) 2, an 809 (.iconst 1) 1, an 810 .iadd 1]
def aC296_4 : List aN := [an 811 .iaload 1, an 812 (.aload_n 0) 1, an 813 (.iload 4) 2, an 815 (.iconst 2) 1, an 816 .iadd 1, an 817 .iaload 1, al 818 (.invokevirtual 100) 3 2 230 11 0, an 821 (.if_icmp .eq 885) 3, an 824 (.iconst 0) 1, an 825 .ireturn 1, an 826 (.aload_n 1) 1, an 827 (.aload_n 0) 1, an 828 (.iload 4) 2, an 830 (.iconst 1) 1, an 831 .iadd 1, an 832 .iaload 1, an 833 (.aload_n 0) 1, an 834 (.iload 4) 2, an 836 (.iconst 2) 1, an 837 .iadd 1, an 838 .iaload 1, al 839 (.invokevirtual 101) 3 2 90 10 0, an 842 (.aload_n 2) 1, an 843 (.aload_n 0) 1, an 844 (.iload 4) 2, an 846 (.iconst 1) 1, an 847 .iadd 1, an 848 .iaload 1, an 849 (.aload_n 0) 1, an 850 (.iload 4) 2, an 852 (.iconst 2) 1, an 853 .iadd 1, an 854 .iaload 1, al 855 (.invokevirtual 104) 3 2 233 11 0, an 858 (.if_icmp .eq 848) 3, an 861 (.iconst 0) 1, an 862 .ireturn 1, an 863 (.aload_n 1) 1, an 864 (.aload_n 0) 1, an 865 (.iload 4) 2, an 867 (.iconst 1) 1, an 868 .iadd 1, an 869 .iaload 1, al 870 (.invokevirtual 105) 3 2 94 10 0, an 873 (.aload_n 2) 1, an 874 (.aload_n 0) 1, an 875 (.iload 4) 2, an 877 (.iconst 1) 1, an 878 .iadd 1, an 879 .iaload 1, al 880 (.invokevirtual 108) 3 2 236 11 0, an 883 (.if_icmp .eq 823) 3, an 886 (.iconst 0) 1, an 887 .ireturn 1, an 888 (.aload_n 1) 1, an 889 (.aload_n 0) 1, an 890 (.iload 4) 2, an 892 (.iconst 1) 1, an 893 .iadd 1, an 894 .iaload 1, an 895 (.aload_n 0) 1, an 896 (.iload 4) 2, an 898 (.iconst 2) 1, an 899 .iadd 1, an 900 .iaload 1, al 901 (.invokevirtual 109) 3 2 96 10 0, an 904 (.aload_n 2) 1, an 905 (.aload_n 0) 1, an 906 (.iload 4) 2, an 908 (.iconst 1) 1, an 909 .iadd 1, an 910 .iaload 1, an 911 (.aload_n 0) 1, an 912 (.iload 4) 2, an 914 (.iconst 2) 1, an 915 .iadd 1, an 916 .iaload 1, al 917 (.invokevirtual 112) 3 2 239 11 0, an 920 (.if_icmp .eq 786) 3, an 923 (.iconst 0) 1, an 924 .ireturn 1, an 925 (.aload_n 1) 1, an 926 (.aload_n 0) 1, an 927 (.iload 4) 2, an 929 (.iconst 1) 1, an 930 .iadd 1, an 931 .iaload 1, an 932 (.aload_n 0) 1, an 933 (.iload 4) 2, an 935 (.iconst 2) 1, an 936 .iadd 1, an 937 .iaload 1, al 938 (.invokevirtual 113) 3 2 98 10 0, an 941 (.aload_n 2) 1, an 942 (.aload_n 0) 1, an 943 (.iload 4) 2, an 945 (.iconst 1) 1, an 946 .iadd 1, an 947 .iaload 1, an 948 (.aload_n 0) 1]
def aC296_5 : List aN := [an 949 (.iload 4) 2, an 951 (.iconst 2) 1, an 952 .iadd 1, an 953 .iaload 1, al 954 (.invokevirtual 116) 3 2 240 11 0, an 957 (.if_icmp .eq 749) 3, an 960 (.iconst 0) 1, an 961 .ireturn 1, an 962 (.aload_n 1) 1, al 963 (.invokevirtual 117) 3 2 102 10 0, an 966 (.aload_n 2) 1, al 967 (.invokevirtual 120) 3 2 243 11 0, an 970 (.if_icmp .eq 736) 3, an 973 (.iconst 0) 1, an 974 .ireturn 1, an 975 (.aload_n 1) 1, al 976 (.invokevirtual 121) 3 2 105 10 0, an 979 (.aload_n 2) 1, al 980 (.invokevirtual 124) 3 2 246 11 0, an 983 (.if_icmp .eq 723) 3, an 986 (.iconst 0) 1, an 987 .ireturn 1, an 988 (.aload_n 1) 1, al 989 (.invokevirtual 125) 3 2 108 10 0, an 992 (.aload_n 2) 1, al 993 (.invokevirtual 128) 3 2 247 11 0, an 996 (.if_icmp .eq 710) 3, an 999 (.iconst 0) 1, an 1000 .ireturn 1, an 1001 (.aload_n 1) 1, an 1002 (.aload_n 0) 1, an 1003 (.iload 4) 2, an 1005 (.iconst 1) 1, an 1006 .iadd 1, an 1007 .iaload 1, al 1008 (.invokevirtual 129) 3 2 109 10 0, an 1011 (.aload_n 2) 1, an 1012 (.aload_n 0) 1, an 1013 (.iload 4) 2, an 1015 (.iconst 1) 1, an 1016 .iadd 1, an 1017 .iaload 1, al 1018 (.invokevirtual 132) 3 2 248 11 0, an 1021 (.if_icmp .eq 685) 3, an 1024 (.iconst 0) 1, an 1025 .ireturn 1, an 1026 (.aload_n 1) 1, al 1027 (.invokevirtual 133) 3 2 111 10 0, an 1030 (.aload_n 2) 1, al 1031 (.invokevirtual 136) 3 2 249 11 0, an 1034 (.if_icmp .eq 672) 3, an 1037 (.iconst 0) 1, an 1038 .ireturn 1, an 1039 (.aload_n 1) 1, an 1040 (.aload_n 0) 1, an 1041 (.iload 4) 2, an 1043 (.iconst 1) 1, an 1044 .iadd 1, an 1045 .iaload 1, al 1046 (.invokevirtual 137) 3 2 112 10 0, an 1049 (.aload_n 2) 1, an 1050 (.aload_n 0) 1, an 1051 (.iload 4) 2, an 1053 (.iconst 1) 1, an 1054 .iadd 1, an 1055 .iaload 1, al 1056 (.invokevirtual 140) 3 2 250 11 0, an 1059 (.if_icmp .eq 647) 3, an 1062 (.iconst 0) 1, an 1063 .ireturn 1, an 1064 (.aload_n 1) 1, an 1065 (.aload_n 0) 1, an 1066 (.iload 4) 2, an 1068 (.iconst 1) 1, an 1069 .iadd 1, an 1070 .iaload 1, al 1071 (.invokevirtual 141) 3 2 114 10 0, an 1074 (.aload_n 2) 1, an 1075 (.aload_n 0) 1, an 1076 (.iload 4) 2, an 1078 (.iconst 1) 1, an 1079 .iadd 1, an 1080 .iaload 1, al 1081 (.invokevirtual 144) 3 2 252 11 0, an 1084 (.if_icmp .eq 622) 3, an 1087 (.iconst 0) 1, an 1088 .ireturn 1, an 1089 (.aload_n 1) 1, an 1090 (.aload_n 0) 1, an 1091 (.iload 4) 2, an 1093 (.iconst 1) 1, an 1094 .iadd 1, an 1095 .iaload 1, al 1096 (.invokevirtual 145) 3 2 116 10 0, an 1099 (.aload_n 2) 1, an 1100 (.aload_n 0) 1, an 1101 (.iload 4) 2, an 1103 (.iconst 1) 1, an 1104 .iadd 1, an 1105 .iaload 1]
def aC296_6 : List aN := [al 1106 (.invokevirtual 148) 3 2 254 11 0, an 1109 (.if_icmp .eq 597) 3, an 1112 (.iconst 0) 1, an 1113 .ireturn 1, an 1114 (.aload_n 1) 1, al 1115 (.invokevirtual 149) 3 2 121 10 0, an 1118 (.aload_n 2) 1, al 1119 (.invokevirtual 152) 3 2 256 11 0, an 1122 (.if_icmp .eq 584) 3, an 1125 (.iconst 0) 1, an 1126 .ireturn 1, an 1127 (.aload_n 1) 1, al 1128 (.invokevirtual 153) 3 2 124 10 0, an 1131 (.aload_n 2) 1, al 1132 (.invokevirtual 156) 3 2 259 11 0, an 1135 (.if_icmp .eq 571) 3, an 1138 (.iconst 0) 1, an 1139 .ireturn 1, an 1140 (.aload_n 1) 1, al 1141 (.invokevirtual 157) 3 2 126 10 0, an 1144 (.aload_n 2) 1, al 1145 (.invokevirtual 160) 3 2 260 11 0, an 1148 (.if_icmp .eq 558) 3, an 1151 (.iconst 0) 1, an 1152 .ireturn 1, an 1153 (.aload_n 1) 1, al 1154 (.invokevirtual 161) 3 2 127 10 0, an 1157 (.aload_n 2) 1, al 1158 (.invokevirtual 164) 3 2 261 11 0, an 1161 (.if_icmp .eq 545) 3, an 1164 (.iconst 0) 1, an 1165 .ireturn 1, an 1166 (.aload_n 1) 1, an 1167 (.aload_n 0) 1, an 1168 (.iload 4) 2, an 1170 (.iconst 1) 1, an 1171 .iadd 1, an 1172 .iaload 1, al 1173 (.invokevirtual 165) 3 2 129 10 0, an 1176 (.aload_n 2) 1, an 1177 (.aload_n 0) 1, an 1178 (.iload 4) 2, an 1180 (.iconst 1) 1, an 1181 .iadd 1, an 1182 .iaload 1, al 1183 (.invokevirtual 168) 3 2 263 11 0, an 1186 (.if_icmp .eq 520) 3, an 1189 (.iconst 0) 1, an 1190 .ireturn 1, an 1191 (.aload_n 1) 1, al 1192 (.invokevirtual 169) 3 2 136 10 0, an 1195 (.aload_n 2) 1, al 1196 (.invokevirtual 172) 3 2 266 11 0, an 1199 (.if_icmp .eq 507) 3, an 1202 (.iconst 0) 1, an 1203 .ireturn 1, an 1204 (.aload_n 1) 1, an 1205 (.aload_n 0) 1, an 1206 (.iload 4) 2, an 1208 (.iconst 1) 1, an 1209 .iadd 1, an 1210 .iaload 1, an 1211 (.aload_n 0) 1, an 1212 (.iload 4) 2, an 1214 (.iconst 2) 1, an 1215 .iadd 1, an 1216 .iaload 1, al 1217 (.invokevirtual 173) 3 2 137 10 0, an 1220 (.aload_n 2) 1, an 1221 (.aload_n 0) 1, an 1222 (.iload 4) 2, an 1224 (.iconst 1) 1, an 1225 .iadd 1, an 1226 .iaload 1, an 1227 (.aload_n 0) 1, an 1228 (.iload 4) 2, an 1230 (.iconst 2) 1, an 1231 .iadd 1, an 1232 .iaload 1, al 1233 (.invokevirtual 176) 3 2 268 11 0, an 1236 (.if_icmp .eq 470) 3, an 1239 (.iconst 0) 1, an 1240 .ireturn 1, an 1241 (.aload_n 1) 1, an 1242 (.aload_n 0) 1, an 1243 (.iload 4) 2, an 1245 (.iconst 1) 1, an 1246 .iadd 1, an 1247 .iaload 1, an 1248 (.aload_n 0) 1, an 1249 (.iload 4) 2, an 1251 (.iconst 2) 1, an 1252 .iadd 1, an 1253 .iaload 1, al 1254 (.invokevirtual 177) 3 2 138 10 0, an 1257 (.aload_n 2) 1, an 1258 (.aload_n 0) 1, an 1259 (.iload 4) 2, an 1261 (.iconst 1) 1, an 1262 .iadd 1]
def aC296_7 : List aN := [an 1263 .iaload 1, an 1264 (.aload_n 0) 1, an 1265 (.iload 4) 2, an 1267 (.iconst 2) 1, an 1268 .iadd 1, an 1269 .iaload 1, al 1270 (.invokevirtual 180) 3 2 269 11 0, an 1273 (.if_icmp .eq 433) 3, an 1276 (.iconst 0) 1, an 1277 .ireturn 1, an 1278 (.aload_n 1) 1, an 1279 (.aload_n 0) 1, an 1280 (.iload 4) 2, an 1282 (.iconst 1) 1, an 1283 .iadd 1, an 1284 .iaload 1, al 1285 (.invokevirtual 181) 3 2 140 10 0, an 1288 (.aload_n 2) 1, an 1289 (.aload_n 0) 1, an 1290 (.iload 4) 2, an 1292 (.iconst 1) 1, an 1293 .iadd 1, an 1294 .iaload 1, al 1295 (.invokevirtual 184) 3 2 271 11 0, an 1298 (.if_icmp .eq 408) 3, an 1301 (.iconst 0) 1, an 1302 .ireturn 1, an 1303 (.aload_n 1) 1, an 1304 (.aload_n 0) 1, an 1305 (.iload 4) 2, an 1307 (.iconst 1) 1, an 1308 .iadd 1, an 1309 .iaload 1, an 1310 (.aload_n 0) 1, an 1311 (.iload 4) 2, an 1313 (.iconst 2) 1, an 1314 .iadd 1, an 1315 .iaload 1, an 1316 (.aload_n 0) 1, an 1317 (.iload 4) 2, an 1319 (.iconst 3) 1, an 1320 .iadd 1, an 1321 .iaload 1, al 1322 (.invokevirtual 185) 3 2 141 10 0, an 1325 (.aload_n 2) 1, an 1326 (.aload_n 0) 1, an 1327 (.iload 4) 2, an 1329 (.iconst 1) 1, an 1330 .iadd 1, an 1331 .iaload 1, an 1332 (.aload_n 0) 1, an 1333 (.iload 4) 2, an 1335 (.iconst 2) 1, an 1336 .iadd 1, an 1337 .iaload 1, an 1338 (.aload_n 0) 1, an 1339 (.iload 4) 2, an 1341 (.iconst 3) 1, an 1342 .iadd 1, an 1343 .iaload 1, al 1344 (.invokevirtual 189) 3 2 272 11 0, an 1347 (.if_icmp .eq 359) 3, an 1350 (.iconst 0) 1, an 1351 .ireturn 1, an 1352 (.aload_n 1) 1, an 1353 (.aload_n 0) 1, an 1354 (.iload 4) 2, an 1356 (.iconst 1) 1, an 1357 .iadd 1, an 1358 .iaload 1, an 1359 (.aload_n 0) 1, an 1360 (.iload 4) 2, an 1362 (.iconst 2) 1, an 1363 .iadd 1, an 1364 .iaload 1, an 1365 (.aload_n 0) 1, an 1366 (.iload 4) 2, an 1368 (.iconst 3) 1, an 1369 .iadd 1, an 1370 .iaload 1, an 1371 (.aload_n 0) 1, an 1372 (.iload 4) 2, an 1374 (.iconst 4) 1, an 1375 .iadd 1, an 1376 .iaload 1, al 1377 (.invokevirtual 190) 3 2 146 10 0, an 1380 (.aload_n 2) 1, an 1381 (.aload_n 0) 1, an 1382 (.iload 4) 2, an 1384 (.iconst 1) 1, an 1385 .iadd 1, an 1386 .iaload 1, an 1387 (.aload_n 0) 1, an 1388 (.iload 4) 2, an 1390 (.iconst 2) 1, an 1391 .iadd 1, an 1392 .iaload 1, an 1393 (.aload_n 0) 1, an 1394 (.iload 4) 2, an 1396 (.iconst 3) 1]
def aC296_8 : List aN := [an 1397 .iadd 1, an 1398 .iaload 1, an 1399 (.aload_n 0) 1, an 1400 (.iload 4) 2, an 1402 (.iconst 4) 1, an 1403 .iadd 1, an 1404 .iaload 1, al 1405 (.invokevirtual 193) 3 2 276 11 0, an 1408 (.if_icmp .eq 298) 3, an 1411 (.iconst 0) 1, an 1412 .ireturn 1, an 1413 (.aload_n 1) 1, an 1414 (.aload_n 0) 1, an 1415 (.iload 4) 2, an 1417 (.iconst 1) 1, an 1418 .iadd 1, an 1419 .iaload 1, an 1420 (.aload_n 0) 1, an 1421 (.iload 4) 2, an 1423 (.iconst 2) 1, an 1424 .iadd 1, an 1425 .iaload 1, al 1426 (.invokevirtual 194) 3 2 147 10 0, an 1429 (.aload_n 2) 1, an 1430 (.aload_n 0) 1, an 1431 (.iload 4) 2, an 1433 (.iconst 1) 1, an 1434 .iadd 1, an 1435 .iaload 1, an 1436 (.aload_n 0) 1, an 1437 (.iload 4) 2, an 1439 (.iconst 2) 1, an 1440 .iadd 1, an 1441 .iaload 1, al 1442 (.invokevirtual 197) 3 2 277 11 0, an 1445 (.if_icmp .eq 261) 3, an 1448 (.iconst 0) 1, an 1449 .ireturn 1, an 1450 (.aload_n 1) 1, al 1451 (.invokevirtual 198) 3 2 150 10 0, an 1454 (.aload_n 2) 1, al 1455 (.invokevirtual 201) 3 2 278 11 0, an 1458 (.if_icmp .eq 248) 3, an 1461 (.iconst 0) 1, an 1462 .ireturn 1, an 1463 (.aload_n 1) 1, al 1464 (.invokevirtual 202) 3 2 152 10 0, an 1467 (.aload_n 2) 1, al 1468 (.invokevirtual 205) 3 2 279 11 0, an 1471 (.if_icmp .eq 235) 3, an 1474 (.iconst 0) 1, an 1475 .ireturn 1, an 1476 (.aload_n 1) 1, al 1477 (.invokevirtual 206) 3 2 156 10 0, an 1480 (.aload_n 2) 1, al 1481 (.invokevirtual 209) 3 2 282 11 0, an 1484 (.if_icmp .eq 222) 3, an 1487 (.iconst 0) 1, an 1488 .ireturn 1, an 1489 (.aload_n 1) 1, an 1490 (.aload_n 0) 1, an 1491 (.iload 4) 2, an 1493 (.iconst 1) 1, an 1494 .iadd 1, an 1495 .iaload 1, an 1496 (.aload_n 0) 1, an 1497 (.iload 4) 2, an 1499 (.iconst 2) 1, an 1500 .iadd 1, an 1501 .iaload 1, al 1502 (.invokevirtual 210) 3 2 158 10 0, an 1505 (.aload_n 2) 1, an 1506 (.aload_n 0) 1, an 1507 (.iload 4) 2, an 1509 (.iconst 1) 1, an 1510 .iadd 1, an 1511 .iaload 1, an 1512 (.aload_n 0) 1, an 1513 (.iload 4) 2, an 1515 (.iconst 2) 1, an 1516 .iadd 1, an 1517 .iaload 1, al 1518 (.invokevirtual 213) 3 2 283 11 0, an 1521 (.if_icmp .eq 185) 3, an 1524 (.iconst 0) 1, an 1525 .ireturn 1, an 1526 (.aload_n 1) 1, al 1527 (.invokevirtual 214) 3 2 162 10 0, an 1530 (.aload_n 2) 1, al 1531 (.invokevirtual 217) 3 2 287 11 0, an 1534 (.if_icmp .eq 172) 3, an 1537 (.iconst 0) 1, an 1538 .ireturn 1, an 1539 (.aload_n 1) 1, an 1540 (.aload_n 0) 1, an 1541 (.iload 4) 2, an 1543 (.iconst 1) 1, an 1544 .iadd 1, an 1545 .iaload 1, an 1546 (.aload_n 0) 1]
def aC296_9 : List aN := [an 1547 (.iload 4) 2, an 1549 (.iconst 2) 1, an 1550 .iadd 1, an 1551 .iaload 1, al 1552 (.invokevirtual 218) 3 2 163 10 0, an 1555 (.aload_n 2) 1, an 1556 (.aload_n 0) 1, an 1557 (.iload 4) 2, an 1559 (.iconst 1) 1, an 1560 .iadd 1, an 1561 .iaload 1, an 1562 (.aload_n 0) 1, an 1563 (.iload 4) 2, an 1565 (.iconst 2) 1, an 1566 .iadd 1, an 1567 .iaload 1, al 1568 (.invokevirtual 221) 3 2 289 11 0, an 1571 (.if_icmp .eq 135) 3, an 1574 (.iconst 0) 1, an 1575 .ireturn 1, an 1576 (.aload_n 1) 1, an 1577 (.aload_n 0) 1, an 1578 (.iload 4) 2, an 1580 (.iconst 1) 1, an 1581 .iadd 1, an 1582 .iaload 1, al 1583 (.invokevirtual 222) 3 2 166 10 0, an 1586 (.aload_n 2) 1, an 1587 (.aload_n 0) 1, an 1588 (.iload 4) 2, an 1590 (.iconst 1) 1, an 1591 .iadd 1, an 1592 .iaload 1, al 1593 (.invokevirtual 225) 3 2 291 11 0, an 1596 (.if_icmp .eq 110) 3, an 1599 (.iconst 0) 1, an 1600 .ireturn 1, an 1601 (.aload_n 1) 1, an 1602 (.aload_n 0) 1, an 1603 (.iload 4) 2, an 1605 (.iconst 1) 1, an 1606 .iadd 1, an 1607 .iaload 1, al 1608 (.invokevirtual 226) 3 2 167 10 0, an 1611 (.aload_n 2) 1, an 1612 (.aload_n 0) 1, an 1613 (.iload 4) 2, an 1615 (.iconst 1) 1, an 1616 .iadd 1, an 1617 .iaload 1, al 1618 (.invokevirtual 229) 3 2 292 11 0, an 1621 (.if_icmp .eq 85) 3, an 1624 (.iconst 0) 1, an 1625 .ireturn 1, an 1626 (.aload_n 1) 1, an 1627 (.aload_n 0) 1, an 1628 (.iload 4) 2, an 1630 (.iconst 1) 1, an 1631 .iadd 1, an 1632 .iaload 1, al 1633 (.invokevirtual 230) 3 2 168 10 0, an 1636 (.aload_n 2) 1, an 1637 (.aload_n 0) 1, an 1638 (.iload 4) 2, an 1640 (.iconst 1) 1, an 1641 .iadd 1, an 1642 .iaload 1, al 1643 (.invokevirtual 233) 3 2 293 11 0, an 1646 (.if_icmp .eq 60) 3, an 1649 (.iconst 0) 1, an 1650 .ireturn 1, an 1651 (.aload_n 1) 1, an 1652 (.aload_n 0) 1, an 1653 (.iload 4) 2, an 1655 (.iconst 1) 1, an 1656 .iadd 1, an 1657 .iaload 1, an 1658 (.aload_n 3) 1, al 1659 (.invokestatic 234) 3 1 302 0 0, an 1662 (.istore 5) 2, an 1664 (.aload_n 2) 1, an 1665 (.aload_n 0) 1, an 1666 (.iload 4) 2, an 1668 (.iconst 1) 1, an 1669 .iadd 1, an 1670 .iaload 1, al 1671 (.invokevirtual 236) 3 2 295 11 0, an 1674 (.lstore 6) 2, an 1676 (.aload_n 2) 1, al 1677 (.invokevirtual 68) 3 2 178 11 0, an 1680 (.iload 5) 2, an 1682 (.if_icmp .eq 5) 3, an 1685 (.iconst 0) 1, an 1686 .ireturn 1, an 1687 (.iload 5) 2, an 1689 (.ifCond .ne 14) 3, an 1692 (.aload_n 3) 1, an 1693 (.iconst 0) 1, an 1694 .laload 1, an 1695 (.lload 6) 2]
def aC296_10 : List aN := [an 1697 .lcmp 1, an 1698 (.ifCond .eq 5) 3, an 1701 (.iconst 0) 1, an 1702 .ireturn 1, an 1703 (.goto 3) 3, an 1706 (.iinc 4 5) 3, an 1709 (.goto (-1686)) 3, an 1712 (.iconst 1) 1, an 1713 .ireturn 1]
def aC296 : List aN := aC296_0 ++ (aC296_1 ++ (aC296_2 ++ (aC296_3 ++ (aC296_4 ++ (aC296_5 ++ (aC296_6 ++ (aC296_7 ++ (aC296_8 ++ (aC296_9 ++ (aC296_10))))))))))
-- 297: BluesAndGreensLaw.driver(LBluesAndGreens;II[J)I
def aC297 : List aN := [an 0 (.aload_n 3) 1, an 1 (.iconst 0) 1, an 2 (.aload_n 0) 1, an 3 (.iload_n 1) 1, an 4 (.iload_n 2) 1, al 5 (.invokevirtual 7) 3 6 169 13 10, an 8 .i2l 1, an 9 .lastore 1, an 10 (.goto 7) 3, an 13 (.astore 4) 2, an 15 (.iconst 1) 1, an 16 .ireturn 1, an 17 (.iconst 0) 1, an 18 .ireturn 1]
-- 298: BluesAndGreensLaw.strength(LBluesAndGreens;I[J)I
def aC298 : List aN := [an 0 (.aload_n 2) 1, an 1 (.iconst 0) 1, an 2 (.aload_n 0) 1, an 3 (.iload_n 1) 1, al 4 (.invokevirtual 15) 3 6 170 12 10, an 7 .i2l 1, an 8 .lastore 1, an 9 (.goto 6) 3, an 12 (.astore_n 3) 1, an 13 (.iconst 1) 1, an 14 .ireturn 1, an 15 (.iconst 0) 1, an 16 .ireturn 1]
-- 299: BluesAndGreensLaw.quarter(LBluesAndGreens;II[J)I
def aC299 : List aN := [an 0 (.aload_n 3) 1, an 1 (.iconst 0) 1, an 2 (.aload_n 0) 1, an 3 (.iload_n 1) 1, an 4 (.iload_n 2) 1, al 5 (.invokevirtual 19) 3 6 171 13 10, an 8 .i2l 1, an 9 .lastore 1, an 10 (.goto 7) 3, an 13 (.astore 4) 2, an 15 (.iconst 1) 1, an 16 .ireturn 1, an 17 (.iconst 0) 1, an 18 .ireturn 1]
-- 300: BluesAndGreensLaw.quarrel(LBluesAndGreens;II[J)I
def aC300 : List aN := [an 0 (.aload_n 3) 1, an 1 (.iconst 0) 1, an 2 (.aload_n 0) 1, an 3 (.iload_n 1) 1, an 4 (.iload_n 2) 1, al 5 (.invokevirtual 22) 3 6 172 13 10, an 8 .i2l 1, an 9 .lastore 1, an 10 (.goto 7) 3, an 13 (.astore 4) 2, an 15 (.iconst 1) 1, an 16 .ireturn 1, an 17 (.iconst 0) 1, an 18 .ireturn 1]
-- 301: BluesAndGreensLaw.club(LBluesAndGreens;II[J)I
def aC301 : List aN := [an 0 (.aload_n 3) 1, an 1 (.iconst 0) 1, an 2 (.aload_n 0) 1, an 3 (.iload_n 1) 1, an 4 (.iload_n 2) 1, al 5 (.invokevirtual 25) 3 6 173 13 10, an 8 .i2l 1, an 9 .lastore 1, an 10 (.goto 7) 3, an 13 (.astore 4) 2, an 15 (.iconst 1) 1, an 16 .ireturn 1, an 17 (.iconst 0) 1, an 18 .ireturn 1]
-- 302: BluesAndGreensLaw.row(LBluesAndGreens;I[J)I
def aC302 : List aN := [an 0 (.aload_n 2) 1, an 1 (.iconst 0) 1, an 2 (.aload_n 0) 1, an 3 (.iload_n 1) 1, al 4 (.invokevirtual 28) 3 6 176 11 10, an 7 .lastore 1, an 8 (.goto 6) 3, an 11 (.astore_n 3) 1, an 12 (.iconst 1) 1, an 13 .ireturn 1, an 14 (.iconst 0) 1, an 15 .ireturn 1]
def aR0 : List aM := [(aC0, 1, 1, 1, 1), (aC1, 1, 1, 5, 0), (aC2, 2, 2, 4, 3), (aC3, 1, 1, 3, 0), (aC4, 2, 2, 4, 2), (aC5, 2, 2, 0, 1), (aC6, 3, 3, 1, 0), (aC7, 2, 2, 1, 3), (aC8, 3, 3, 1, 2), (aC9, 4, 4, 1, 1), (aC10, 1, 1, 3, 0), (aC11, 4, 6, 1, 0), (aC12, 1, 1, 1, 0), (aC13, 1, 1, 0, 7), (aC14, 1, 1, 0, 0), (aC15, 2, 2, 0, 0), (aC16, 2, 2, 0, 0), (aC17, 1, 1, 0, 0)]
def aR1 : List aM := [(aC18, 1, 1, 0, 0), (aC19, 1, 2, 0, 0), (aC20, 1, 1, 0, 0), (aC21, 1, 1, 0, 2), (aC22, 1, 1, 0, 0), (aC23, 1, 1, 0, 0), (aC24, 2, 3, 1, 6), (aC25, 2, 3, 0, 4), (aC26, 2, 2, 0, 0), (aC27, 2, 4, 1, 5), (aC28, 1, 1, 0, 0), (aC29, 2, 2, 0, 0), (aC30, 1, 2, 1, 0), (aC31, 2, 4, 3, 4), (aC32, 2, 2, 0, 1), (aC33, 1, 1, 0, 0), (aC34, 2, 2, 0, 0), (aC35, 2, 5, 1, 2)]
def aR2 : List aM := [(aC36, 3, 4, 1, 1), (aC37, 2, 2, 0, 0), (aC38, 2, 5, 3, 2), (aC39, 1, 1, 1, 0), (aC40, 3, 4, 0, 1), (aC41, 2, 2, 1, 1), (aC42, 2, 2, 3, 0), (aC43, 2, 2, 1, 2), (aC44, 2, 3, 1, 1), (aC45, 2, 2, 3, 1), (aC46, 1, 2, 1, 6), (aC47, 5, 7, 1, 5), (aC48, 4, 5, 0, 4), (aC49, 1, 1, 1, 2), (aC50, 1, 2, 1, 3), (aC51, 1, 5, 1, 1), (aC52, 3, 5, 0, 0), (aC53, 1, 2, 0, 1)]
def aR3 : List aM := [(aC54, 1, 1, 0, 0), (aC55, 1, 2, 1, 6), (aC56, 1, 2, 1, 6), (aC57, 1, 2, 1, 7), (aC58, 2, 2, 0, 0), (aC59, 2, 3, 1, 0), (aC60, 5, 9, 1, 1), (aC61, 2, 3, 1, 0), (aC62, 2, 3, 1, 5), (aC63, 2, 2, 0, 0), (aC64, 5, 10, 1, 4), (aC65, 3, 5, 1, 3), (aC66, 4, 8, 1, 2), (aC67, 4, 9, 1, 1), (aC68, 2, 2, 1, 0), (aC69, 1, 1, 1, 0), (aC70, 2, 2, 1, 0), (aC71, 1, 1, 1, 0)]
def aR4 : List aM := [(aC72, 2, 2, 1, 0), (aC73, 2, 2, 1, 0), (aC74, 3, 3, 1, 0), (aC75, 1, 1, 3, 0), (aC76, 3, 3, 0, 0), (aC77, 3, 3, 0, 0), (aC78, 2, 2, 3, 1), (aC79, 1, 1, 1, 0), (aC80, 2, 2, 0, 1), (aC81, 3, 3, 0, 0), (aC82, 3, 5, 0, 2), (aC83, 2, 3, 0, 1), (aC84, 1, 1, 0, 0), (aC85, 2, 3, 0, 0), (aC86, 3, 3, 1, 3), (aC87, 4, 5, 1, 1), (aC88, 2, 2, 3, 0), (aC89, 2, 2, 1, 2)]
def aR5 : List aM := [(aC90, 3, 3, 1, 3), (aC91, 4, 4, 1, 2), (aC92, 2, 2, 3, 1), (aC93, 2, 2, 3, 0), (aC94, 2, 2, 1, 3), (aC95, 3, 4, 1, 2), (aC96, 3, 3, 1, 3), (aC97, 3, 3, 1, 1), (aC98, 3, 3, 1, 3), (aC99, 4, 4, 1, 2), (aC100, 2, 2, 3, 0), (aC101, 2, 2, 1, 0), (aC102, 1, 3, 1, 6), (aC103, 2, 5, 1, 2), (aC104, 2, 5, 1, 5), (aC105, 1, 1, 1, 2), (aC106, 2, 2, 1, 1), (aC107, 3, 3, 0, 0)]
def aR6 : List aM := [(aC108, 1, 4, 1, 3), (aC109, 2, 3, 1, 5), (aC110, 4, 7, 0, 3), (aC111, 1, 2, 1, 4), (aC112, 2, 5, 1, 4), (aC113, 3, 4, 3, 3), (aC114, 2, 6, 1, 4), (aC115, 3, 4, 3, 3), (aC116, 2, 10, 1, 3), (aC117, 3, 5, 1, 1), (aC118, 2, 2, 1, 2), (aC119, 3, 5, 1, 1), (aC120, 2, 2, 1, 2), (aC121, 1, 3, 1, 4), (aC122, 2, 4, 1, 1), (aC123, 2, 4, 3, 3), (aC124, 1, 8, 1, 4), (aC125, 1, 1, 1, 0)]
def aR7 : List aM := [(aC126, 1, 4, 1, 4), (aC127, 1, 8, 1, 4), (aC128, 3, 3, 1, 3), (aC129, 2, 3, 1, 3), (aC130, 2, 2, 3, 2), (aC131, 1, 1, 1, 1), (aC132, 1, 1, 1, 0), (aC133, 3, 6, 1, 1), (aC134, 2, 4, 1, 0), (aC135, 2, 2, 1, 2), (aC136, 1, 4, 1, 2), (aC137, 3, 7, 1, 3), (aC138, 3, 8, 1, 3), (aC139, 3, 5, 1, 1), (aC140, 2, 5, 1, 3), (aC141, 4, 6, 1, 4), (aC142, 2, 5, 2, 0), (aC143, 2, 5, 2, 0)]
def aR8 : List aM := [(aC144, 3, 7, 0, 3), (aC145, 2, 11, 2, 0), (aC146, 5, 9, 1, 4), (aC147, 3, 3, 1, 2), (aC148, 3, 3, 1, 1), (aC149, 1, 1, 1, 0), (aC150, 1, 1, 1, 1), (aC151, 1, 2, 1, 0), (aC152, 1, 2, 1, 4), (aC153, 2, 4, 1, 3), (aC154, 3, 4, 3, 2), (aC155, 4, 4, 3, 1), (aC156, 1, 7, 1, 4), (aC157, 2, 4, 1, 1), (aC158, 3, 6, 1, 3), (aC159, 4, 5, 3, 1), (aC160, 3, 3, 1, 0), (aC161, 3, 3, 1, 0)]
def aR9 : List aM := [(aC162, 1, 4, 1, 7), (aC163, 3, 6, 1, 6), (aC164, 1, 3, 1, 5), (aC165, 2, 2, 1, 0), (aC166, 2, 2, 3, 1), (aC167, 2, 2, 3, 1), (aC168, 2, 2, 1, 2), (aC169, 3, 3, 1, 2), (aC170, 2, 2, 1, 2), (aC171, 3, 3, 1, 0), (aC172, 3, 3, 1, 1), (aC173, 3, 3, 1, 3), (aC174, 2, 2, 1, 0), (aC175, 2, 4, 1, 0), (aC176, 2, 2, 2, 0), (aC177, 1, 2, 0, 0), (aC178, 1, 1, 1, 0), (aC179, 2, 3, 1, 0)]
def aR10 : List aM := [(aC180, 2, 2, 3, 1), (aC181, 3, 3, 3, 0), (aC182, 1, 4, 1, 4), (aC183, 2, 2, 0, 1), (aC184, 4, 4, 0, 0), (aC185, 1, 1, 3, 0), (aC186, 2, 2, 0, 1), (aC187, 3, 3, 1, 2), (aC188, 1, 1, 1, 0), (aC189, 2, 4, 1, 3), (aC190, 1, 1, 1, 3), (aC191, 2, 2, 3, 1), (aC192, 2, 2, 0, 2), (aC193, 1, 1, 3, 2), (aC194, 1, 1, 0, 0), (aC195, 1, 4, 1, 5), (aC196, 2, 4, 0, 4), (aC197, 1, 4, 1, 3)]
def aR11 : List aM := [(aC198, 1, 3, 1, 9), (aC199, 1, 1, 3, 8), (aC200, 2, 3, 1, 7), (aC201, 2, 5, 1, 6), (aC202, 2, 5, 1, 5), (aC203, 2, 4, 1, 4), (aC204, 1, 1, 1, 0), (aC205, 3, 3, 1, 2), (aC206, 2, 2, 3, 1), (aC207, 1, 1, 1, 0), (aC208, 2, 2, 1, 9), (aC209, 3, 5, 1, 8), (aC210, 3, 3, 1, 1), (aC211, 3, 3, 1, 1), (aC212, 3, 3, 1, 2), (aC213, 1, 1, 3, 1), (aC214, 3, 5, 1, 0), (aC215, 2, 4, 1, 0)]
def aR12 : List aM := [(aC216, 2, 4, 1, 1), (aC217, 2, 2, 3, 0), (aC218, 2, 3, 1, 1), (aC219, 5, 9, 1, 1), (aC220, 2, 2, 1, 12), (aC221, 2, 3, 0, 1), (aC222, 3, 4, 0, 0), (aC223, 3, 4, 0, 11), (aC224, 2, 4, 1, 10), (aC225, 2, 4, 1, 9), (aC226, 3, 3, 0, 0), (aC227, 3, 3, 0, 0), (aC228, 2, 2, 3, 0), (aC229, 2, 3, 0, 0), (aC230, 3, 4, 1, 3), (aC231, 4, 4, 1, 2), (aC232, 4, 4, 0, 1), (aC233, 3, 4, 1, 3)]
def aR13 : List aM := [(aC234, 3, 3, 1, 2), (aC235, 3, 3, 0, 0), (aC236, 2, 3, 1, 3), (aC237, 2, 2, 1, 2), (aC238, 2, 2, 0, 0), (aC239, 3, 3, 1, 2), (aC240, 3, 4, 1, 2), (aC241, 3, 3, 1, 1), (aC242, 4, 4, 0, 1), (aC243, 1, 3, 1, 13), (aC244, 2, 4, 0, 3), (aC245, 4, 4, 3, 12), (aC246, 1, 2, 1, 0), (aC247, 1, 5, 1, 9), (aC248, 2, 10, 1, 11), (aC249, 1, 2, 1, 11), (aC250, 2, 4, 1, 11), (aC251, 3, 3, 3, 10)]
def aR14 : List aM := [(aC252, 2, 6, 1, 11), (aC253, 3, 4, 3, 1), (aC254, 2, 6, 1, 2), (aC255, 3, 5, 1, 1), (aC256, 1, 3, 1, 3), (aC257, 1, 3, 1, 0), (aC258, 3, 5, 3, 2), (aC259, 1, 8, 1, 3), (aC260, 1, 4, 1, 3), (aC261, 1, 4, 1, 3), (aC262, 3, 3, 1, 2), (aC263, 2, 3, 1, 2), (aC264, 2, 2, 3, 1), (aC265, 3, 6, 1, 1), (aC266, 1, 3, 1, 2), (aC267, 1, 1, 1, 0), (aC268, 3, 5, 1, 2), (aC269, 3, 6, 1, 2)]
def aR15 : List aM := [(aC270, 3, 5, 1, 1), (aC271, 2, 5, 1, 2), (aC272, 4, 7, 1, 2), (aC273, 2, 6, 2, 0), (aC274, 3, 7, 0, 1), (aC275, 2, 4, 2, 0), (aC276, 5, 9, 1, 2), (aC277, 3, 4, 1, 1), (aC278, 1, 2, 1, 0), (aC279, 1, 1, 1, 3), (aC280, 1, 5, 1, 2), (aC281, 4, 4, 3, 1), (aC282, 1, 7, 1, 3), (aC283, 3, 6, 1, 2), (aC284, 4, 5, 3, 1), (aC285, 3, 3, 1, 0), (aC286, 3, 3, 1, 0), (aC287, 1, 6, 1, 13)]
def aR16 : List aM := [(aC288, 2, 2, 1, 12), (aC289, 3, 9, 1, 11), (aC290, 2, 2, 1, 0), (aC291, 2, 2, 3, 1), (aC292, 2, 3, 3, 1), (aC293, 2, 2, 1, 1), (aC294, 1, 3, 1, 0), (aC295, 2, 2, 2, 1), (aC296, 1, 8, 3, 14), (aC297, 4, 5, 1, 3), (aC298, 3, 4, 1, 3), (aC299, 4, 5, 1, 1), (aC300, 4, 5, 1, 2), (aC301, 4, 5, 1, 4), (aC302, 3, 4, 1, 1)]
def aTab : List (List aM) := [aR0, aR1, aR2, aR3, aR4, aR5, aR6, aR7, aR8, aR9, aR10, aR11, aR12, aR13, aR14, aR15, aR16]
def aMt (k : Nat) : aM := (aTab.getD (k / 18) []).getD (k % 18) ([], 0, 0, 0, 0)
/-- the room deeper calls have: a call of a lower rank keeps it, another one takes 1 -/
def aDp (d k k' : Nat) : Option Nat := if (aMt k').2.2.2.2 < (aMt k).2.2.2.2 then some d else match d with
  | 0 => none
  | e + 1 => some e
/-- how many places a row has -/
def aSz (σ : aS) (a : Nat) : Nat := if a = 0 then σ.2.2.2 0 0 else aLn a
def aW (st : List Value) : Nat := (st.map fun v => v.category).sum
/-- behind a call: by the callee's kind of answer -/
def aRet (r : Nat) (o : Option aO) (rest : List Value) (K : List Value → aS → Option aO) : Option aO := match r with
  | 0 => aBv o (fun σ => K rest σ)
  | 2 => aBl o (fun x σ => K (.long x :: rest) σ)
  | _ => aBi o (fun x σ => K (.int x :: rest) σ)
def aRetH (r : Nat) (o : Option aO) (rest : List Value) (K : List Value → aS → Option aO) (h : aS → Option aO) : Option aO := match r with
  | 0 => none
  | 2 => aHl o (fun x σ => K (.long x :: rest) σ) h
  | _ => aHi o (fun x σ => K (.int x :: rest) σ) h
def aCall (C : Nat → Nat → List Value → aS → Option aO) (d k k' : Nat) (st : List Value) (σ : aS) (K : List Value → aS → Option aO) : Option aO :=
  if (aMt k').2.1 ≤ st.length then (if aW (st.drop (aMt k').2.1) ≤ 8 ∧ aW (st.take (aMt k').2.1) ≤ (aMt k').2.2.1 then (match aDp d k k' with
    | none => none
    | some e => aRet (aMt k').2.2.2.1 (C e k' (st.take (aMt k').2.1).reverse σ) (st.drop (aMt k').2.1) K) else none) else none
def aCallH (C : Nat → Nat → List Value → aS → Option aO) (d k k' : Nat) (st : List Value) (σ : aS) (K : List Value → aS → Option aO) (h : aS → Option aO) : Option aO :=
  if (aMt k').2.1 ≤ st.length then (if aW (st.drop (aMt k').2.1) ≤ 8 ∧ aW (st.take (aMt k').2.1) ≤ (aMt k').2.2.1 then (match aDp d k k' with
    | none => none
    | some e => aRetH (aMt k').2.2.2.1 (C e k' (st.take (aMt k').2.1).reverse σ) (st.drop (aMt k').2.1) K h) else none) else none
/-- which local a handler's first instruction fills, and where it goes on -/
def aHnd (k hpc : Nat) : Option (Nat × Nat) := match aFind (aMt k).1 hpc with
  | some (.astore i, _) => some (i, hpc + 2)
  | some (.astore_n i, _) => some (i, hpc + 1)
  | _ => none
/-- the receiver of a call: a cell of that kind -/
def aRc (st : List Value) (n kd : Nat) : Bool := match st[n - 1]? with
  | some (.ref o) => Nat.beq (aKd o) kd
  | _ => false
def aAct (C : Nat → Nat → List Value → aS → Option aO) (K : Nat → List Value → List Value → aS → Option aO) (d k : Nat) (i : Instr) (len t a b : Nat) (z : Int) (pc : Nat) (L st : List Value) (σ : aS) : Option aO :=
  match i with
  | .iconst n => K (pc + 1) L (.int (Int32.ofInt n) :: st) σ
  | .bipush n => K (pc + 2) L (.int (Int8.ofInt n).toInt32 :: st) σ
  | .sipush n => K (pc + 3) L (.int (Int16.ofInt n).toInt32 :: st) σ
  | .lconst n => K (pc + 1) L (.long (Int64.ofNat (n : Nat)) :: st) σ
  | .ldc _ => match t with
    | 14 => K (pc + 2) L (.int (Int32.ofInt z) :: st) σ
    | 15 => K (pc + 2) L (.ref a :: st) σ
    | _ => none
  | .ldc_w _ => match t with
    | 14 => K (pc + 3) L (.int (Int32.ofInt z) :: st) σ
    | 15 => K (pc + 3) L (.ref a :: st) σ
    | _ => none
  | .ldc2_w _ => match t with
    | 16 => K (pc + 3) L (.long (Int64.ofInt z) :: st) σ
    | _ => none
  | .iload_n j => match L[(j : Nat)]? with
    | some (.int x) => K (pc + 1) L (.int x :: st) σ
    | _ => none
  | .iload j => match L[j]? with
    | some (.int x) => K (pc + 2) L (.int x :: st) σ
    | _ => none
  | .lload_n j => match L[(j : Nat)]? with
    | some (.long x) => K (pc + 1) L (.long x :: st) σ
    | _ => none
  | .lload j => match L[j]? with
    | some (.long x) => K (pc + 2) L (.long x :: st) σ
    | _ => none
  | .aload_n j => match L[(j : Nat)]? with
    | some (.ref x) => K (pc + 1) L (.ref x :: st) σ
    | _ => none
  | .aload j => match L[j]? with
    | some (.ref x) => K (pc + 2) L (.ref x :: st) σ
    | _ => none
  | .istore_n j => match st with
    | .int x :: r => if (j : Nat) < L.length then K (pc + 1) (aSt1 L j (.int x)) r σ else none
    | _ => none
  | .istore j => match st with
    | .int x :: r => if j < L.length then K (pc + 2) (aSt1 L j (.int x)) r σ else none
    | _ => none
  | .astore_n j => match st with
    | .ref x :: r => if (j : Nat) < L.length then K (pc + 1) (aSt1 L j (.ref x)) r σ else none
    | _ => none
  | .astore j => match st with
    | .ref x :: r => if j < L.length then K (pc + 2) (aSt1 L j (.ref x)) r σ else none
    | _ => none
  | .lstore_n j => match st with
    | .long x :: r => if (j : Nat) + 1 < L.length then K (pc + 1) (aSt2 L j (.long x)) r σ else none
    | _ => none
  | .lstore j => match st with
    | .long x :: r => if j + 1 < L.length then K (pc + 2) (aSt2 L j (.long x)) r σ else none
    | _ => none
  | .iinc j n => match L[j]? with
    | some (.int x) => K (pc + 3) (aSt1 L j (.int (x + Int32.ofInt n))) st σ
    | _ => none
  | .iadd => match st with
    | .int y :: .int x :: r => K (pc + 1) L (.int (x + y) :: r) σ
    | _ => none
  | .isub => match st with
    | .int y :: .int x :: r => K (pc + 1) L (.int (x - y) :: r) σ
    | _ => none
  | .imul => match st with
    | .int y :: .int x :: r => K (pc + 1) L (.int (x * y) :: r) σ
    | _ => none
  | .iand => match st with
    | .int y :: .int x :: r => K (pc + 1) L (.int (x &&& y) :: r) σ
    | _ => none
  | .ior => match st with
    | .int y :: .int x :: r => K (pc + 1) L (.int (x ||| y) :: r) σ
    | _ => none
  | .ixor => match st with
    | .int y :: .int x :: r => K (pc + 1) L (.int (x ^^^ y) :: r) σ
    | _ => none
  | .idiv => match st with
    | .int y :: .int x :: r => if y = 0 then none else K (pc + 1) L (.int (x / y) :: r) σ
    | _ => none
  | .irem => match st with
    | .int y :: .int x :: r => if y = 0 then none else K (pc + 1) L (.int (x - x / y * y) :: r) σ
    | _ => none
  | .ineg => match st with
    | .int x :: r => K (pc + 1) L (.int (-x) :: r) σ
    | _ => none
  | .ishl => match st with
    | .int y :: .int x :: r => K (pc + 1) L (.int (x <<< (y &&& 31)) :: r) σ
    | _ => none
  | .ishr => match st with
    | .int y :: .int x :: r => K (pc + 1) L (.int (x >>> (y &&& 31)) :: r) σ
    | _ => none
  | .iushr => match st with
    | .int y :: .int x :: r => K (pc + 1) L (.int (x.toUInt32 >>> (y.toUInt32 &&& Int32.toUInt32 31)).toInt32 :: r) σ
    | _ => none
  | .ladd => match st with
    | .long y :: .long x :: r => K (pc + 1) L (.long (x + y) :: r) σ
    | _ => none
  | .lmul => match st with
    | .long y :: .long x :: r => K (pc + 1) L (.long (x * y) :: r) σ
    | _ => none
  | .ldiv => match st with
    | .long y :: .long x :: r => if y = 0 then none else K (pc + 1) L (.long (x / y) :: r) σ
    | _ => none
  | .lrem => match st with
    | .long y :: .long x :: r => if y = 0 then none else K (pc + 1) L (.long (x - x / y * y) :: r) σ
    | _ => none
  | .lcmp => match st with
    | .long y :: .long x :: r => K (pc + 1) L (.int (lg_cmp x y) :: r) σ
    | _ => none
  | .i2l => match st with
    | .int x :: r => K (pc + 1) L (.long x.toInt64 :: r) σ
    | _ => none
  | .l2i => match st with
    | .long x :: r => K (pc + 1) L (.int x.toInt32 :: r) σ
    | _ => none
  | .i2b => match st with
    | .int x :: r => K (pc + 1) L (.int x.toInt8.toInt32 :: r) σ
    | _ => none
  | .i2s => match st with
    | .int x :: r => K (pc + 1) L (.int x.toInt16.toInt32 :: r) σ
    | _ => none
  | .i2c => match st with
    | .int x :: r => K (pc + 1) L (.int (x.toUInt32 % 65536).toInt32 :: r) σ
    | _ => none
  | .dup => match st with
    | .int x :: r => K (pc + 1) L (.int x :: .int x :: r) σ
    | .ref x :: r => K (pc + 1) L (.ref x :: .ref x :: r) σ
    | _ => none
  | .pop => match st with
    | .int _ :: r => K (pc + 1) L r σ
    | _ => none
  | .dup_x1 => match st with
    | .int x :: .ref y :: r => K (pc + 1) L (.int x :: .ref y :: .int x :: r) σ
    | _ => none
  | .dup2 => match st with
    | .int x :: .ref y :: r => K (pc + 1) L (.int x :: .ref y :: .int x :: .ref y :: r) σ
    | _ => none
  | .ifCond c off => match st with
    | .int x :: r => match c with
      | .eq => if x = 0 then K (aTgt pc off) L r σ else K (pc + 3) L r σ
      | .ne => if x = 0 then K (pc + 3) L r σ else K (aTgt pc off) L r σ
      | .lt => if x < 0 then K (aTgt pc off) L r σ else K (pc + 3) L r σ
      | .ge => if 0 ≤ x then K (aTgt pc off) L r σ else K (pc + 3) L r σ
      | .gt => if 0 < x then K (aTgt pc off) L r σ else K (pc + 3) L r σ
      | .le => if x ≤ 0 then K (aTgt pc off) L r σ else K (pc + 3) L r σ
    | _ => none
  | .if_icmp c off => match st with
    | .int y :: .int x :: r => match c with
      | .eq => if x = y then K (aTgt pc off) L r σ else K (pc + 3) L r σ
      | .ne => if x = y then K (pc + 3) L r σ else K (aTgt pc off) L r σ
      | .lt => if x < y then K (aTgt pc off) L r σ else K (pc + 3) L r σ
      | .ge => if y ≤ x then K (aTgt pc off) L r σ else K (pc + 3) L r σ
      | .gt => if y < x then K (aTgt pc off) L r σ else K (pc + 3) L r σ
      | .le => if x ≤ y then K (aTgt pc off) L r σ else K (pc + 3) L r σ
    | _ => none
  | .goto off => K (aTgt pc off) L st σ
  | .tableswitch df lo hi offs => match st with
    | .int x :: r => if x.toInt < lo ∨ hi < x.toInt then K (aTgt pc df) L r σ else match offs.toList[(x.toInt - lo).toNat]? with
      | some off => K (aTgt pc off) L r σ
      | none => none
    | _ => none
  | .lookupswitch df ps => match st with
    | .int x :: r => K (aTgt pc (Op.lookupswitch.offset ps.toList df x.toInt)) L r σ
    | _ => none
  | .getfield _ => match st with
    | .ref o :: r => match t with
      | 20 => if aKd o = a then (if b % 8 = 4 then K (pc + 3) L (aRf (σ.2.2.2 o (b / 8)) :: r) σ else K (pc + 3) L (.int (σ.2.1 o (b / 8)) :: r) σ) else none
      | 30 => if aKd o = 21 then (if a = 0 then K (pc + 3) L (.ref (o + 2) :: r) σ else K (pc + 3) L (.int 0 :: r) σ) else none
      | _ => none
    | _ => none
  | .putfield _ => match st with
    | .int x :: .ref o :: r => match t with
      | 20 => if aKd o = a then (match b % 8 with
        | 0 => K (pc + 3) L r (aPI σ o (b / 8) x)
        | 1 => if x = 0 ∨ x = 1 then K (pc + 3) L r (aPI σ o (b / 8) x) else none
        | _ => none) else none
      | _ => none
    | .ref x :: .ref o :: r => match t with
      | 20 => if aKd o = a then (match b % 8 with
        | 4 => K (pc + 3) L r (aPP σ o (b / 8) (x + 1))
        | _ => none) else none
      | _ => none
    | _ => none
  | .getstatic _ => match t with
    | 31 => K (pc + 3) L (.int 1 :: st) σ
    | 32 => K (pc + 3) L (.ref 5 :: st) σ
    | _ => none
  | .newarray ty => match st with
    | .int n :: r => if n < 0 then none else (if aKd σ.1.1 = aKind ty ∧ aLn σ.1.1 = n.toNatClampNeg then K (pc + 2) L (.ref σ.1.1 :: r) (aNew σ 1 n.toNatClampNeg) else none)
    | _ => none
  | .new _ => match t with
    | 12 => if aKd σ.1.1 = a ∧ aLn σ.1.1 = b then K (pc + 3) L (.ref σ.1.1 :: st) (aNew σ 1 b) else none
    | 13 => some (none, aNew σ 0 6)
    | _ => none
  | .arraylength => match st with
    | .ref o :: r => if 12 ≤ aKd o ∧ aKd o ≤ 22 ∧ ¬ aKd o = 21 then K (pc + 1) L (.int (Int32.ofNat (aSz σ o)) :: r) σ else none
    | _ => none
  | .iaload => match st with
    | .int j :: .ref o :: r => if aKd o = 14 ∨ aKd o = 20 then (if j < 0 ∨ aSz σ o ≤ j.toNatClampNeg then none else K (pc + 1) L (.int (σ.2.1 o j.toNatClampNeg) :: r) σ) else none
    | _ => none
  | .baload => match st with
    | .int j :: .ref o :: r => if aKd o = 12 ∨ aKd o = 16 ∨ aKd o = 22 then (if j < 0 ∨ aLn o ≤ j.toNatClampNeg then none else K (pc + 1) L (.int (σ.2.1 o j.toNatClampNeg) :: r) σ) else none
    | _ => none
  | .caload => match st with
    | .int j :: .ref o :: r => if aKd o = 13 then (if j < 0 ∨ aLn o ≤ j.toNatClampNeg then none else K (pc + 1) L (.int (σ.2.1 o j.toNatClampNeg) :: r) σ) else none
    | _ => none
  | .laload => match st with
    | .int j :: .ref o :: r => if aKd o = 15 then (if j < 0 ∨ aLn o ≤ j.toNatClampNeg then none else K (pc + 1) L (.long (σ.2.2.1 o j.toNatClampNeg) :: r) σ) else none
    | _ => none
  | .iastore => match st with
    | .int x :: .int j :: .ref o :: r => if aKd o = 14 then (if j < 0 ∨ aLn o ≤ j.toNatClampNeg then none else K (pc + 1) L r (aPI σ o j.toNatClampNeg x)) else none
    | _ => none
  | .bastore => match st with
    | .int x :: .int j :: .ref o :: r => if aKd o = 12 then (if j < 0 ∨ aLn o ≤ j.toNatClampNeg then none else K (pc + 1) L r (aPI σ o j.toNatClampNeg (vp_nar .byte x))) else
      (if aKd o = 16 then (if j < 0 ∨ aLn o ≤ j.toNatClampNeg then none else K (pc + 1) L r (aPI σ o j.toNatClampNeg (vp_nar .boolean x))) else none)
    | _ => none
  | .castore => match st with
    | .int x :: .int j :: .ref o :: r => if aKd o = 13 then (if j < 0 ∨ aLn o ≤ j.toNatClampNeg then none else K (pc + 1) L r (aPI σ o j.toNatClampNeg (vp_nar .char x))) else none
    | _ => none
  | .lastore => match st with
    | .long x :: .int j :: .ref o :: r => if aKd o = 15 then (if j < 0 ∨ aLn o ≤ j.toNatClampNeg then none else K (pc + 1) L r (aPJ σ o j.toNatClampNeg x)) else none
    | _ => none
  | .return_ => match (aMt k).2.2.2.1, st with
    | 0, [] => some (some none, σ)
    | _, _ => none
  | .lreturn => match (aMt k).2.2.2.1, st with
    | 2, [.long x] => some (some (some (.long x)), σ)
    | _, _ => none
  | .ireturn => match (aMt k).2.2.2.1, st with
    | 1, [.int x] => some (some (some (.int x)), σ)
    | 3, [.int x] => if narrow .boolean (.int x) = .int x then some (some (some (.int x)), σ) else none
    | 4, [.int x] => if narrow .char (.int x) = .int x then some (some (some (.int x)), σ) else none
    | 5, [.int x] => if narrow .byte (.int x) = .int x then some (some (some (.int x)), σ) else none
    | _, _ => none
  | .invokestatic _ => match t with
    | 1 => aCall C d k a st σ (fun r τ => K (pc + 3) L r τ)
    | 4 => aCall C d k a st σ (fun r τ => K (pc + 3) L r τ)
    | 11 => match st with
      | .int n :: .int dp :: .ref o' :: .int sp :: .ref o :: r => if aKd o = 14 ∧ aKd o' = 14 ∧ ¬ sp < 0 ∧ ¬ dp < 0 ∧ ¬ n < 0 ∧ sp.toNatClampNeg + n.toNatClampNeg ≤ aLn o ∧ dp.toNatClampNeg + n.toNatClampNeg ≤ aLn o' ∧ ¬ o = o' ∧ aW r ≤ 8 then
          K (pc + 3) L r (aCp σ o sp.toNatClampNeg o' dp.toNatClampNeg n.toNatClampNeg) else none
      | _ => none
    | 17 => match st with
      | .int y :: .int x :: r => if aW r ≤ 8 then K (pc + 3) L (.int (if x < y then y else x) :: r) σ else none
      | _ => none
    | 18 => match st with
      | .int y :: .int x :: r => if aW r ≤ 8 then K (pc + 3) L (.int (if y < x then y else x) :: r) σ else none
      | _ => none
    | _ => none
  | .invokevirtual _ => match t with
    | 2 => if aRc st (aMt a).2.1 b = true then aCall C d k a st σ (fun r τ => K (pc + 3) L r τ) else none
    | 6 => match aHnd k b with
      | some (j, q) => if j < L.length ∧ aRc st (aMt a).2.1 z.toNat = true then aCallH C d k a st σ (fun r τ => K (pc + 3) L r τ) (fun τ => K q (aSt1 L j aNo) [] τ) else none
      | none => none
    | _ => none
  | .invokespecial _ => match t with
    | 3 => if aRc st (aMt a).2.1 b = true then aCall C d k a st σ (fun r τ => K (pc + 3) L r τ) else none
    | 5 => if aRc st (aMt a).2.1 b = true then aCall C d k a st σ (fun r τ => K (pc + 3) L r τ) else none
    | 10 => match st with
      | .ref x :: r => if aW r ≤ 8 ∧ aKd x < 12 then K (pc + 3) L r σ else none
      | _ => none
    | _ => none
  | _ => none
/-- one step, with what calls and later steps come to -/
def aStep (C : Nat → Nat → List Value → aS → Option aO) (K : Nat → List Value → List Value → aS → Option aO) (d k pc : Nat) (L st : List Value) (σ : aS) : Option aO :=
  match aFind (aMt k).1 pc with
  | none => none
  | some (i, len, t, a, b, z) => aAct C K d k i len t a b z pc L st σ
def aX : Nat → Nat → Nat → Nat → List Value → List Value → aS → Option aO
  | 0, _, _, _, _, _, _ => none
  | n + 1, d, k, pc, L, st, σ => aStep (fun e k' as τ => aX n e k' 0 (aLoc (aMt k').2.2.1 as) [] τ) (fun pc' L' st' τ => aX n d k pc' L' st' τ) d k pc L st σ
end
section
/-! what a step asks of calls and of later steps -/
theorem aBi_use {o : Option aO} {f : Int32 → aS → Option aO} {r : aO} (h : aBi o f = some r) : ∃ x σ, o = some (some (some (.int x)), σ) ∧ f x σ = some r := by
  unfold aBi at h
  split at h
  · exact ⟨_, _, rfl, h⟩
  · cases h
theorem aBl_use {o : Option aO} {f : Int64 → aS → Option aO} {r : aO} (h : aBl o f = some r) : ∃ x σ, o = some (some (some (.long x)), σ) ∧ f x σ = some r := by
  unfold aBl at h
  split at h
  · exact ⟨_, _, rfl, h⟩
  · cases h
theorem aBv_use {o : Option aO} {f : aS → Option aO} {r : aO} (h : aBv o f = some r) : ∃ σ, o = some (some none, σ) ∧ f σ = some r := by
  unfold aBv at h
  split at h
  · exact ⟨_, rfl, h⟩
  · cases h
theorem aHi_use {o : Option aO} {f : Int32 → aS → Option aO} {g : aS → Option aO} {r : aO} (h : aHi o f g = some r) : (∃ x σ, o = some (some (some (.int x)), σ) ∧ f x σ = some r) ∨ ∃ σ, o = some (none, σ) ∧ g σ = some r := by
  unfold aHi at h
  split at h
  · exact Or.inl ⟨_, _, rfl, h⟩
  · exact Or.inr ⟨_, rfl, h⟩
  · cases h
theorem aHl_use {o : Option aO} {f : Int64 → aS → Option aO} {g : aS → Option aO} {r : aO} (h : aHl o f g = some r) : (∃ x σ, o = some (some (some (.long x)), σ) ∧ f x σ = some r) ∨ ∃ σ, o = some (none, σ) ∧ g σ = some r := by
  unfold aHl at h
  split at h
  · exact Or.inl ⟨_, _, rfl, h⟩
  · exact Or.inr ⟨_, rfl, h⟩
  · cases h
/-- a call's answer goes onto the stack: by its kind -/
def aAns (r : Nat) (v : Option Value) (rest st : List Value) : Prop := (r = 0 ∧ v = none ∧ st = rest) ∨ (r = 2 ∧ ∃ x, v = some (.long x) ∧ st = .long x :: rest) ∨ (r ≠ 0 ∧ r ≠ 2 ∧ ∃ x, v = some (.int x) ∧ st = .int x :: rest)
theorem aRet_use {r : Nat} {o : Option aO} {rest : List Value} {K : List Value → aS → Option aO} {q : aO} (h : aRet r o rest K = some q) : ∃ v st σ, o = some (some v, σ) ∧ aAns r v rest st ∧ K st σ = some q ∧ ∀ (o' : Option aO) (K' : List Value → aS → Option aO), o' = some (some v, σ) → K' st σ = some q → aRet r o' rest K' = some q := by
  unfold aRet at h
  split at h
  · obtain ⟨σ, h1, h2⟩ := aBv_use h
    exact ⟨_, _, _, h1, Or.inl ⟨rfl, rfl, rfl⟩, h2, fun o' K' e k => by simp [aRet, aBv, e, k]⟩
  · obtain ⟨x, σ, h1, h2⟩ := aBl_use h
    exact ⟨_, _, _, h1, Or.inr (Or.inl ⟨rfl, x, rfl, rfl⟩), h2, fun o' K' e k => by simp [aRet, aBl, e, k]⟩
  · rename_i n0 n2
    obtain ⟨x, σ, h1, h2⟩ := aBi_use h
    exact ⟨_, _, _, h1, Or.inr (Or.inr ⟨n0, n2, x, rfl, rfl⟩), h2, fun o' K' e k => by simp [aRet, aBi, e, k]⟩
theorem aRetH_use {r : Nat} {o : Option aO} {rest : List Value} {K : List Value → aS → Option aO} {g : aS → Option aO} {q : aO} (h : aRetH r o rest K g = some q) : (∃ v st σ, o = some (some v, σ) ∧ aAns r v rest st ∧ K st σ = some q ∧ ∀ (o' : Option aO) (K' : List Value → aS → Option aO) (g' : aS → Option aO), o' = some (some v, σ) → K' st σ = some q → aRetH r o' rest K' g' = some q) ∨ (r ≠ 0 ∧ ∃ σ, o = some (none, σ) ∧ g σ = some q ∧ ∀ (o' : Option aO) (K' : List Value → aS → Option aO) (g' : aS → Option aO), o' = some (none, σ) → g' σ = some q → aRetH r o' rest K' g' = some q) := by
  unfold aRetH at h
  split at h
  · cases h
  · rcases aHl_use h with ⟨x, σ, h1, h2⟩ | ⟨σ, h1, h2⟩
    · exact Or.inl ⟨_, _, _, h1, Or.inr (Or.inl ⟨rfl, x, rfl, rfl⟩), h2, fun o' K' g' e k => by simp [aRetH, aHl, e, k]⟩
    · exact Or.inr ⟨by decide, σ, h1, h2, fun o' K' g' e k => by simp [aRetH, aHl, e, k]⟩
  · rename_i n0 n2
    rcases aHi_use h with ⟨x, σ, h1, h2⟩ | ⟨σ, h1, h2⟩
    · exact Or.inl ⟨_, _, _, h1, Or.inr (Or.inr ⟨n0, n2, x, rfl, rfl⟩), h2, fun o' K' g' e k => by simp [aRetH, aHi, e, k]⟩
    · exact Or.inr ⟨n0, σ, h1, h2, fun o' K' g' e k => by simp [aRetH, aHi, e, k]⟩
section UseC
variable {C : Nat → Nat → List Value → aS → Option aO} {d k k' : Nat} {st : List Value} {σ : aS} {K : List Value → aS → Option aO} {q : aO}
theorem aCall_use (h : aCall C d k k' st σ K = some q) : ∃ e v st' τ, (aMt k').2.1 ≤ st.length ∧ (aW (st.drop (aMt k').2.1) ≤ 8 ∧ aW (st.take (aMt k').2.1) ≤ (aMt k').2.2.1) ∧ aDp d k k' = some e ∧ C e k' (st.take (aMt k').2.1).reverse σ = some (some v, τ) ∧ aAns (aMt k').2.2.2.1 v (st.drop (aMt k').2.1) st' ∧ K st' τ = some q ∧
    ∀ (C' : Nat → Nat → List Value → aS → Option aO) (K' : List Value → aS → Option aO), C' e k' (st.take (aMt k').2.1).reverse σ = some (some v, τ) → K' st' τ = some q → aCall C' d k k' st σ K' = some q := by
  unfold aCall at h
  split at h
  · rename_i h1
    split at h
    · rename_i h2
      split at h
      · cases h
      · rename_i e he
        obtain ⟨v, st', τ, g1, g2, g3, g4⟩ := aRet_use h
        exact ⟨e, v, st', τ, h1, h2, he, g1, g2, g3, fun C' K' a b => by unfold aCall; rw [if_pos h1, if_pos h2, he]; exact g4 _ _ a b⟩
    · cases h
  · cases h
theorem aCallH_use {g : aS → Option aO} (h : aCallH C d k k' st σ K g = some q) : ∃ e, (aMt k').2.1 ≤ st.length ∧ (aW (st.drop (aMt k').2.1) ≤ 8 ∧ aW (st.take (aMt k').2.1) ≤ (aMt k').2.2.1) ∧ aDp d k k' = some e ∧ ((∃ v st' τ, C e k' (st.take (aMt k').2.1).reverse σ = some (some v, τ) ∧ aAns (aMt k').2.2.2.1 v (st.drop (aMt k').2.1) st' ∧ K st' τ = some q ∧
    ∀ (C' : Nat → Nat → List Value → aS → Option aO) (K' : List Value → aS → Option aO) (g' : aS → Option aO), C' e k' (st.take (aMt k').2.1).reverse σ = some (some v, τ) → K' st' τ = some q → aCallH C' d k k' st σ K' g' = some q) ∨
    (∃ τ, C e k' (st.take (aMt k').2.1).reverse σ = some (none, τ) ∧ g τ = some q ∧
    ∀ (C' : Nat → Nat → List Value → aS → Option aO) (K' : List Value → aS → Option aO) (g' : aS → Option aO), C' e k' (st.take (aMt k').2.1).reverse σ = some (none, τ) → g' τ = some q → aCallH C' d k k' st σ K' g' = some q)) := by
  unfold aCallH at h
  split at h
  · rename_i h1
    split at h
    · rename_i h2
      split at h
      · cases h
      · rename_i e he
        refine ⟨e, h1, h2, he, ?_⟩
        rcases aRetH_use h with ⟨v, st', τ, g1, g2, g3, g4⟩ | ⟨-, τ, g1, g3, g4⟩
        · exact Or.inl ⟨v, st', τ, g1, g2, g3, fun C' K' g' a b => by unfold aCallH; rw [if_pos h1, if_pos h2, he]; exact g4 _ _ _ a b⟩
        · exact Or.inr ⟨τ, g1, g3, fun C' K' g' a b => by unfold aCallH; rw [if_pos h1, if_pos h2, he]; exact g4 _ _ _ a b⟩
    · cases h
  · cases h
end UseC
def aUse (C : Nat → Nat → List Value → aS → Option aO) (K : Nat → List Value → List Value → aS → Option aO) (F : (Nat → Nat → List Value → aS → Option aO) → (Nat → List Value → List Value → aS → Option aO) → Option aO) (o : aO) : Prop :=
  (∀ C' K', F C' K' = some o) ∨ (∃ pc' L' st' σ', K pc' L' st' σ' = some o ∧ ∀ C' K', K' pc' L' st' σ' = some o → F C' K' = some o) ∨
  (∃ e k' as τ q pc' L' st' σ', C e k' as τ = some q ∧ K pc' L' st' σ' = some o ∧ ∀ C' K', C' e k' as τ = some q → K' pc' L' st' σ' = some o → F C' K' = some o)
end
section
set_option maxHeartbeats 4000000 in
set_option maxRecDepth 100000 in
theorem aAct_use {C : Nat → Nat → List Value → aS → Option aO} {K : Nat → List Value → List Value → aS → Option aO} {d k : Nat} {i : Instr} {len t a b : Nat} {z : Int} {pc : Nat} {L st : List Value} {σ : aS} {o : aO} (h : aAct C K d k i len t a b z pc L st σ = some o) :
    aUse C K (fun C' K' => aAct C' K' d k i len t a b z pc L st σ) o := by
  have kc : ∀ {i : Instr}, (aCall C d k a st σ (fun r τ => K (pc + 3) L r τ) = some o) → (∀ C' K', aAct C' K' d k i len t a b z pc L st σ = aCall C' d k a st σ (fun r τ => K' (pc + 3) L r τ)) → aUse C K (fun C' K' => aAct C' K' d k i len t a b z pc L st σ) o := by
    intro _ h e
    obtain ⟨e', v, st', τ, -, -, -, g1, -, g3, g4⟩ := aCall_use h
    exact Or.inr (Or.inr ⟨_, _, _, _, _, _, _, _, _, g1, g3, fun C' K' a b => (e C' K').trans (g4 C' _ a b)⟩)
  unfold aAct at h
  split at h
  all_goals first
    | exact Or.inr (Or.inl ⟨_, _, _, _, h, fun C' K' h' => h'⟩)
    | (cases h; done)
    | skip
  all_goals (repeat' split at h)
  all_goals first
    | (cases h; done)
    | exact Or.inl (fun C' K' => h)
    | exact Or.inr (Or.inl ⟨_, _, _, _, h, fun C' K' h' => h'⟩)
    | exact kc h (fun _ _ => rfl)
    | (rename_i hrc; exact kc h (fun _ _ => if_pos hrc))
    | exact Or.inr (Or.inl ⟨_, _, _, _, h, fun C' K' h' => by unfold aAct; simp only [*, if_true, if_false]; exact h'⟩)
    | exact Or.inr (Or.inl ⟨_, _, _, _, h, fun C' K' h' => by unfold aAct; simp only [*, if_true, if_false, not_false_eq_true, not_true_eq_false, or_true, true_or, or_self, and_self, Nat.reduceEqDiff]⟩)
    | (rename_i j q hq hj
       rcases aCallH_use h with ⟨e, -, -, -, ⟨v, st', τ, g1, -, g3, g4⟩ | ⟨τ, g1, g3, g4⟩⟩
       · exact Or.inr (Or.inr ⟨_, _, _, _, _, _, _, _, _, g1, g3, fun C' K' a b => by unfold aAct; simp only [hq, if_pos hj]; exact g4 C' _ _ a b⟩)
       · exact Or.inr (Or.inr ⟨_, _, _, _, _, _, _, _, _, g1, g3, fun C' K' a b => by unfold aAct; simp only [hq, if_pos hj]; exact g4 C' _ _ a b⟩))
    | exact Or.inl (fun C' K' => by unfold aAct; split <;> simp_all)
/-- a step over other calls and later steps that say as much -/
theorem aStep_use {C : Nat → Nat → List Value → aS → Option aO} {K : Nat → List Value → List Value → aS → Option aO} {d k pc : Nat} {L st : List Value} {σ : aS} {o : aO} (h : aStep C K d k pc L st σ = some o) :
    aUse C K (fun C' K' => aStep C' K' d k pc L st σ) o := by
  unfold aStep at h
  split at h
  · cases h
  · rename_i i len t a b z hf
    have e : ∀ C' K', aStep C' K' d k pc L st σ = aAct C' K' d k i len t a b z pc L st σ := fun C' K' => by unfold aStep; rw [hf]
    have h1 := aAct_use h
    unfold aUse at h1 ⊢
    simpa only [e] using h1
theorem aX_up : ∀ (n d k pc : Nat) (L st : List Value) (σ : aS) (o : aO), aX n d k pc L st σ = some o → aX (n + 1) d k pc L st σ = some o := by
  intro n
  induction n with
  | zero => intro d k pc L st σ o h; cases h
  | succ n ih =>
    intro d k pc L st σ o h
    unfold aX at h ⊢
    rcases aStep_use h with h | ⟨pc', L', st', σ', h1, h2⟩ | ⟨e, k', as, τ, q, pc', L', st', σ', h0, h1, h2⟩
    · exact h _ _
    · exact h2 _ _ (ih _ _ _ _ _ _ _ h1)
    · exact h2 _ _ (ih _ _ _ _ _ _ _ h0) (ih _ _ _ _ _ _ _ h1)
theorem aX_le {n m d k pc : Nat} {L st : List Value} {σ : aS} {o : aO} (hnm : n ≤ m) (h : aX n d k pc L st σ = some o) : aX m d k pc L st σ = some o := by
  induction hnm with
  | refl => exact h
  | step _ ih => exact aX_up _ _ _ _ _ _ _ _ ih
theorem aX_one {n m d k pc : Nat} {L st : List Value} {σ : aS} {o q : aO} (h : aX n d k pc L st σ = some o) (g : aX m d k pc L st σ = some q) : o = q := by
  rcases Nat.le_total n m with e | e
  · exact Option.some.inj ((aX_le e h).symm.trans g)
  · exact Option.some.inj (h.symm.trans (aX_le e g))
/-- WHAT A METHOD COMES TO from a place of it: none where it never ends, or can't go on -/
noncomputable def aE (d k pc : Nat) (L st : List Value) (σ : aS) : Option aO := @dite (Option aO) (∃ o, ∃ n, aX n d k pc L st σ = some o) (Classical.propDecidable _) (fun h => some (Classical.choose h)) (fun _ => none)
theorem aE_of {n d k pc : Nat} {L st : List Value} {σ : aS} {o : aO} (h : aX n d k pc L st σ = some o) : aE d k pc L st σ = some o := by
  have hx : ∃ o, ∃ n, aX n d k pc L st σ = some o := ⟨o, n, h⟩
  unfold aE
  rw [dif_pos hx]
  obtain ⟨m, hm⟩ := Classical.choose_spec hx
  rw [aX_one h hm]
theorem aE_to {d k pc : Nat} {L st : List Value} {σ : aS} {o : aO} (h : aE d k pc L st σ = some o) : ∃ n, aX n d k pc L st σ = some o := by
  unfold aE at h
  split at h
  · rename_i hx
    cases h
    exact Classical.choose_spec hx
  · cases h
/-- a method from its entry -/
noncomputable def aF (d k : Nat) (as : List Value) (σ : aS) : Option aO := aE d k 0 (aLoc (aMt k).2.2.1 as) [] σ
theorem aE_eq (d k pc : Nat) (L st : List Value) (σ : aS) : aE d k pc L st σ = aStep (fun e k' as τ => aF e k' as τ) (fun pc' L' st' τ => aE d k pc' L' st' τ) d k pc L st σ := by
  have up : ∀ o, aE d k pc L st σ = some o → aStep (fun e k' as τ => aF e k' as τ) (fun pc' L' st' τ => aE d k pc' L' st' τ) d k pc L st σ = some o := by
    intro o h
    obtain ⟨n, hn⟩ := aE_to h
    cases n with
    | zero => cases hn
    | succ n =>
      unfold aX at hn
      rcases aStep_use hn with h | ⟨pc', L', st', σ', h1, h2⟩ | ⟨e, k', as, τ, q, pc', L', st', σ', h0, h1, h2⟩
      · exact h _ _
      · exact h2 _ _ (aE_of h1)
      · exact h2 _ _ (aE_of h0) (aE_of h1)
  have dn : ∀ o, aStep (fun e k' as τ => aF e k' as τ) (fun pc' L' st' τ => aE d k pc' L' st' τ) d k pc L st σ = some o → aE d k pc L st σ = some o := by
    intro o h
    rcases aStep_use h with h | ⟨pc', L', st', σ', h1, h2⟩ | ⟨e, k', as, τ, q, pc', L', st', σ', h0, h1, h2⟩
    · exact aE_of (n := 1) (h _ _)
    · obtain ⟨n, hn⟩ := aE_to h1
      exact aE_of (n := n + 1) (h2 _ _ hn)
    · obtain ⟨n, hn⟩ := aE_to h1
      obtain ⟨m, hm⟩ := aE_to h0
      exact aE_of (n := n + m + 1) (h2 _ _ (aX_le (Nat.le_add_left m n) hm) (aX_le (Nat.le_add_right n m) hn))
  cases h1 : aE d k pc L st σ with
  | some o => exact (up o h1).symm
  | none =>
    cases h2 : aStep (fun e k' as τ => aF e k' as τ) (fun pc' L' st' τ => aE d k pc' L' st' τ) d k pc L st σ with
    | none => rfl
    | some o => rw [dn o h2] at h1; cases h1
/-- so many steps of it -/
noncomputable def aG : Nat → Nat → Nat → Nat → List Value → List Value → aS → Option aO
  | 0, d, k, pc, L, st, σ => aE d k pc L st σ
  | n + 1, d, k, pc, L, st, σ => aStep (fun e k' as τ => aF e k' as τ) (fun pc' L' st' τ => aG n d k pc' L' st' τ) d k pc L st σ
theorem aG_eq : ∀ (n d k pc : Nat) (L st : List Value) (σ : aS), aE d k pc L st σ = aG n d k pc L st σ := by
  intro n
  induction n with
  | zero => intros; rfl
  | succ n ih =>
    intro d k pc L st σ
    rw [aE_eq]
    unfold aG
    congr 1
    funext pc' L' st' τ
    exact ih d k pc' L' st' τ
end
section
/-! the classes: names, fields, types (from the printed names) -/
def RX0 : String := "BluesAndGreens$City"
def TX0 : u_T := fun k => match k with
  | 0 => ("BluesAndGreens$City", "drivers", "I", false)
  | 1 => ("BluesAndGreens$City", "skill", "[I", true)
  | 2 => ("BluesAndGreens$City", "price", "[I", true)
  | 3 => ("BluesAndGreens$City", "firstClub", "[I", true)
  | 4 => ("BluesAndGreens$City", "quarters", "I", false)
  | 5 => ("BluesAndGreens$City", "crowd", "[I", true)
  | 6 => ("BluesAndGreens$City", "colour", "[I", true)
  | 7 => ("BluesAndGreens$City", "need", "[I", true)
  | 8 => ("BluesAndGreens$City", "gatesOf", "[I", true)
  | 9 => ("BluesAndGreens$City", "quarrels", "I", false)
  | 10 => ("BluesAndGreens$City", "adds", "[I", true)
  | _ => ("BluesAndGreens$City", "limit", "I", false)
def tyX0 : Nat → FieldType := fun k => match k with
  | 0 => .int
  | 1 => .array .int
  | 2 => .array .int
  | 3 => .array .int
  | 4 => .int
  | 5 => .array .int
  | 6 => .array .int
  | 7 => .array .int
  | 8 => .array .int
  | 9 => .int
  | 10 => .array .int
  | _ => .int
abbrev wsX00 : List Cond := u_ws RX0 TX0 12
theorem nmX0 : ∀ a, a < 12 → ∀ b, b < 12 → a ≠ b → (TX0 a).2.1 ≠ (TX0 b).2.1 := by decide +kernel
theorem tyX0_ok : ∀ k, k < 12 → parseFieldDescriptor (TX0 k).2.2.1 = some (tyX0 k) := by decide +kernel
def RX1 : String := "BluesAndGreens$Heard"
def TX1 : u_T := fun k => match k with
  | 0 => ("BluesAndGreens$Heard", "whats", "[I", true)
  | 1 => ("BluesAndGreens$Heard", "values", "[I", true)
  | _ => ("BluesAndGreens$Heard", "size", "I", false)
def tyX1 : Nat → FieldType := fun k => match k with
  | 0 => .array .int
  | 1 => .array .int
  | _ => .int
abbrev wsX10 : List Cond := u_ws RX1 TX1 3
theorem nmX1 : ∀ a, a < 3 → ∀ b, b < 3 → a ≠ b → (TX1 a).2.1 ≠ (TX1 b).2.1 := by decide +kernel
theorem tyX1_ok : ∀ k, k < 3 → parseFieldDescriptor (TX1 k).2.2.1 = some (tyX1 k) := by decide +kernel
def RX2 : String := "BluesAndGreens$Past"
def TX2 : u_T := fun k => match k with
  | 0 => ("BluesAndGreens$Past", "rows", "[I", true)
  | 1 => ("BluesAndGreens$Past", "size", "I", false)
  | _ => ("BluesAndGreens$Past", "next", "I", false)
def tyX2 : Nat → FieldType := fun k => match k with
  | 0 => .array .int
  | 1 => .int
  | _ => .int
abbrev wsX20 : List Cond := u_ws RX2 TX2 3
theorem nmX2 : ∀ a, a < 3 → ∀ b, b < 3 → a ≠ b → (TX2 a).2.1 ≠ (TX2 b).2.1 := by decide +kernel
theorem tyX2_ok : ∀ k, k < 3 → parseFieldDescriptor (TX2 k).2.2.1 = some (tyX2 k) := by decide +kernel
def RX3 : String := "BluesAndGreens$Reader"
def TX3 : u_T := fun k => match k with
  | 0 => ("BluesAndGreens$Reader", "text", "LBluesAndGreens$Text;", true)
  | 1 => ("BluesAndGreens$Reader", "most", "I", false)
  | 2 => ("BluesAndGreens$Reader", "at", "I", false)
  | _ => ("BluesAndGreens$Reader", "wrong", "I", false)
def tyX3 : Nat → FieldType := fun k => match k with
  | 0 => .object "BluesAndGreens$Text"
  | 1 => .int
  | 2 => .int
  | _ => .int
abbrev wsX30 : List Cond := u_ws RX3 TX3 4
theorem nmX3 : ∀ a, a < 4 → ∀ b, b < 4 → a ≠ b → (TX3 a).2.1 ≠ (TX3 b).2.1 := by decide +kernel
theorem tyX3_ok : ∀ k, k < 4 → parseFieldDescriptor (TX3 k).2.2.1 = some (tyX3 k) := by decide +kernel
def RX4 : String := "BluesAndGreens$Row"
def TX4 : u_T := fun k => match k with
  | 0 => ("BluesAndGreens$Row", "numbers", "[J", true)
  | _ => ("BluesAndGreens$Row", "size", "I", false)
def tyX4 : Nat → FieldType := fun k => match k with
  | 0 => .array .long
  | _ => .int
abbrev wsX40 : List Cond := u_ws RX4 TX4 2
theorem nmX4 : ∀ a, a < 2 → ∀ b, b < 2 → a ≠ b → (TX4 a).2.1 ≠ (TX4 b).2.1 := by decide +kernel
theorem tyX4_ok : ∀ k, k < 2 → parseFieldDescriptor (TX4 k).2.2.1 = some (tyX4 k) := by decide +kernel
def RX5 : String := "BluesAndGreens$Rule"
def TX5 : u_T := fun k => match k with
  | 0 => ("BluesAndGreens$Rule", "code", "[I", true)
  | 1 => ("BluesAndGreens$Rule", "size", "I", false)
  | 2 => ("BluesAndGreens$Rule", "things", "[I", true)
  | _ => ("BluesAndGreens$Rule", "stack", "[I", true)
def tyX5 : Nat → FieldType := fun k => match k with
  | 0 => .array .int
  | 1 => .int
  | 2 => .array .int
  | _ => .array .int
abbrev wsX50 : List Cond := u_ws RX5 TX5 4
theorem nmX5 : ∀ a, a < 4 → ∀ b, b < 4 → a ≠ b → (TX5 a).2.1 ≠ (TX5 b).2.1 := by decide +kernel
theorem tyX5_ok : ∀ k, k < 4 → parseFieldDescriptor (TX5 k).2.2.1 = some (tyX5 k) := by decide +kernel
def RX6 : String := "BluesAndGreens$RuleReader"
def TX6 : u_T := fun k => match k with
  | 0 => ("BluesAndGreens$RuleReader", "reader", "LBluesAndGreens$Reader;", true)
  | 1 => ("BluesAndGreens$RuleReader", "waiting", "[I", true)
  | 2 => ("BluesAndGreens$RuleReader", "size", "I", false)
  | 3 => ("BluesAndGreens$RuleReader", "depth", "I", false)
  | _ => ("BluesAndGreens$RuleReader", "compared", "I", false)
def tyX6 : Nat → FieldType := fun k => match k with
  | 0 => .object "BluesAndGreens$Reader"
  | 1 => .array .int
  | 2 => .int
  | 3 => .int
  | _ => .int
abbrev wsX60 : List Cond := u_ws RX6 TX6 5
theorem nmX6 : ∀ a, a < 5 → ∀ b, b < 5 → a ≠ b → (TX6 a).2.1 ≠ (TX6 b).2.1 := by decide +kernel
theorem tyX6_ok : ∀ k, k < 5 → parseFieldDescriptor (TX6 k).2.2.1 = some (tyX6 k) := by decide +kernel
def RX7 : String := "BluesAndGreens$Runs"
def TX7 : u_T := fun k => match k with
  | 0 => ("BluesAndGreens$Runs", "last", "I", false)
  | 1 => ("BluesAndGreens$Runs", "joined", "I", false)
  | 2 => ("BluesAndGreens$Runs", "mostBlue", "I", false)
  | 3 => ("BluesAndGreens$Runs", "mostGreen", "I", false)
  | _ => ("BluesAndGreens$Runs", "seed", "I", false)
def tyX7 : Nat → FieldType := fun k => match k with
  | 0 => .int
  | 1 => .int
  | 2 => .int
  | 3 => .int
  | _ => .int
abbrev wsX70 : List Cond := u_ws RX7 TX7 5
theorem nmX7 : ∀ a, a < 5 → ∀ b, b < 5 → a ≠ b → (TX7 a).2.1 ≠ (TX7 b).2.1 := by decide +kernel
theorem tyX7_ok : ∀ k, k < 5 → parseFieldDescriptor (TX7 k).2.2.1 = some (tyX7 k) := by decide +kernel
def RX8 : String := "BluesAndGreens$State"
def TX8 : u_T := fun k => match k with
  | _ => ("BluesAndGreens$State", "cells", "[I", true)
def tyX8 : Nat → FieldType := fun k => match k with
  | _ => .array .int
abbrev wsX80 : List Cond := u_ws RX8 TX8 1
theorem nmX8 : ∀ a, a < 1 → ∀ b, b < 1 → a ≠ b → (TX8 a).2.1 ≠ (TX8 b).2.1 := by decide +kernel
theorem tyX8_ok : ∀ k, k < 1 → parseFieldDescriptor (TX8 k).2.2.1 = some (tyX8 k) := by decide +kernel
def RX9 : String := "BluesAndGreens$Text"
def TX9 : u_T := fun k => match k with
  | 0 => ("BluesAndGreens$Text", "signs", "[C", true)
  | _ => ("BluesAndGreens$Text", "length", "I", false)
def tyX9 : Nat → FieldType := fun k => match k with
  | 0 => .array .char
  | _ => .int
abbrev wsX90 : List Cond := u_ws RX9 TX9 2
theorem nmX9 : ∀ a, a < 2 → ∀ b, b < 2 → a ≠ b → (TX9 a).2.1 ≠ (TX9 b).2.1 := by decide +kernel
theorem tyX9_ok : ∀ k, k < 2 → parseFieldDescriptor (TX9 k).2.2.1 = some (tyX9 k) := by decide +kernel
def RX10 : String := "BluesAndGreens"
def TX10 : u_T := fun k => match k with
  | 0 => ("BluesAndGreens", "text", "LBluesAndGreens$Text;", true)
  | 1 => ("BluesAndGreens", "reader", "LBluesAndGreens$Reader;", true)
  | 2 => ("BluesAndGreens", "ruleReader", "LBluesAndGreens$RuleReader;", true)
  | 3 => ("BluesAndGreens", "told", "LBluesAndGreens$Row;", true)
  | 4 => ("BluesAndGreens", "city", "LBluesAndGreens$City;", true)
  | 5 => ("BluesAndGreens", "now", "LBluesAndGreens$State;", true)
  | 6 => ("BluesAndGreens", "before", "LBluesAndGreens$State;", true)
  | 7 => ("BluesAndGreens", "trial", "LBluesAndGreens$State;", true)
  | 8 => ("BluesAndGreens", "past", "LBluesAndGreens$Past;", true)
  | 9 => ("BluesAndGreens", "kept", "[I", true)
  | 10 => ("BluesAndGreens", "isKept", "[Z", true)
  | 11 => ("BluesAndGreens", "theRule", "LBluesAndGreens$Rule;", true)
  | 12 => ("BluesAndGreens", "otherRule", "LBluesAndGreens$Rule;", true)
  | 13 => ("BluesAndGreens", "runs", "LBluesAndGreens$Runs;", true)
  | 14 => ("BluesAndGreens", "hearsay", "LBluesAndGreens$Heard;", true)
  | _ => ("BluesAndGreens", "acts", "[I", true)
def tyX10 : Nat → FieldType := fun k => match k with
  | 0 => .object "BluesAndGreens$Text"
  | 1 => .object "BluesAndGreens$Reader"
  | 2 => .object "BluesAndGreens$RuleReader"
  | 3 => .object "BluesAndGreens$Row"
  | 4 => .object "BluesAndGreens$City"
  | 5 => .object "BluesAndGreens$State"
  | 6 => .object "BluesAndGreens$State"
  | 7 => .object "BluesAndGreens$State"
  | 8 => .object "BluesAndGreens$Past"
  | 9 => .array .int
  | 10 => .array .boolean
  | 11 => .object "BluesAndGreens$Rule"
  | 12 => .object "BluesAndGreens$Rule"
  | 13 => .object "BluesAndGreens$Runs"
  | 14 => .object "BluesAndGreens$Heard"
  | _ => .array .int
abbrev wsX100 : List Cond := u_ws RX10 TX10 16
theorem nmX10 : ∀ a, a < 16 → ∀ b, b < 16 → a ≠ b → (TX10 a).2.1 ≠ (TX10 b).2.1 := by decide +kernel
theorem tyX10_ok : ∀ k, k < 16 → parseFieldDescriptor (TX10 k).2.2.1 = some (tyX10 k) := by decide +kernel
def RX11 : String := "BluesAndGreensModel"
def TX11 : u_T := fun k => match k with
  | 0 => ("BluesAndGreensModel", "now", "[I", true)
  | 1 => ("BluesAndGreensModel", "drivers", "I", false)
  | 2 => ("BluesAndGreensModel", "skill", "[I", true)
  | 3 => ("BluesAndGreensModel", "price", "[I", true)
  | 4 => ("BluesAndGreensModel", "quarters", "I", false)
  | 5 => ("BluesAndGreensModel", "quarter", "[I", true)
  | 6 => ("BluesAndGreensModel", "quarrels", "I", false)
  | 7 => ("BluesAndGreensModel", "quarrel", "[I", true)
  | 8 => ("BluesAndGreensModel", "limit", "I", false)
  | 9 => ("BluesAndGreensModel", "text", "[B", true)
  | 10 => ("BluesAndGreensModel", "typed", "I", false)
  | 11 => ("BluesAndGreensModel", "row", "[J", true)
  | 12 => ("BluesAndGreensModel", "rowMany", "I", false)
  | 13 => ("BluesAndGreensModel", "thrown", "I", false)
  | 14 => ("BluesAndGreensModel", "read", "[B", false)
  | 15 => ("BluesAndGreensModel", "length", "I", false)
  | 16 => ("BluesAndGreensModel", "top", "I", false)
  | 17 => ("BluesAndGreensModel", "at", "I", false)
  | 18 => ("BluesAndGreensModel", "wrong", "I", false)
  | 19 => ("BluesAndGreensModel", "comes", "[I", true)
  | 20 => ("BluesAndGreensModel", "rule", "[B", false)
  | 21 => ("BluesAndGreensModel", "otherRule", "[B", false)
  | 22 => ("BluesAndGreensModel", "ruleSize", "I", false)
  | 23 => ("BluesAndGreensModel", "isAsked", "Z", false)
  | 24 => ("BluesAndGreensModel", "asked", "[I", true)
  | 25 => ("BluesAndGreensModel", "undos", "[I", true)
  | 26 => ("BluesAndGreensModel", "undoMany", "I", false)
  | 27 => ("BluesAndGreensModel", "aside", "[I", true)
  | 28 => ("BluesAndGreensModel", "then", "[I", true)
  | 29 => ("BluesAndGreensModel", "blues", "I", false)
  | 30 => ("BluesAndGreensModel", "lastWinner", "I", false)
  | 31 => ("BluesAndGreensModel", "joined", "I", false)
  | 32 => ("BluesAndGreensModel", "acts", "[I", true)
  | 33 => ("BluesAndGreensModel", "heardOf", "[I", true)
  | 34 => ("BluesAndGreensModel", "heardBy", "[I", true)
  | 35 => ("BluesAndGreensModel", "heardMany", "I", false)
  | 36 => ("BluesAndGreensModel", "drawn", "I", false)
  | 37 => ("BluesAndGreensModel", "came", "I", false)
  | 38 => ("BluesAndGreensModel", "kept", "[I", true)
  | 39 => ("BluesAndGreensModel", "isKept", "[Z", true)
  | _ => ("BluesAndGreensModel", "keptCame", "[I", true)
def tyX11 : Nat → FieldType := fun k => match k with
  | 0 => .array .int
  | 1 => .int
  | 2 => .array .int
  | 3 => .array .int
  | 4 => .int
  | 5 => .array .int
  | 6 => .int
  | 7 => .array .int
  | 8 => .int
  | 9 => .array .byte
  | 10 => .int
  | 11 => .array .long
  | 12 => .int
  | 13 => .int
  | 14 => .array .byte
  | 15 => .int
  | 16 => .int
  | 17 => .int
  | 18 => .int
  | 19 => .array .int
  | 20 => .array .byte
  | 21 => .array .byte
  | 22 => .int
  | 23 => .boolean
  | 24 => .array .int
  | 25 => .array .int
  | 26 => .int
  | 27 => .array .int
  | 28 => .array .int
  | 29 => .int
  | 30 => .int
  | 31 => .int
  | 32 => .array .int
  | 33 => .array .int
  | 34 => .array .int
  | 35 => .int
  | 36 => .int
  | 37 => .int
  | 38 => .array .int
  | 39 => .array .boolean
  | _ => .array .int
abbrev wsX110 : List Cond := u_ws RX11 TX11 41
theorem nmX11 : ∀ a, a < 41 → ∀ b, b < 41 → a ≠ b → (TX11 a).2.1 ≠ (TX11 b).2.1 := by decide +kernel
theorem tyX11_ok : ∀ k, k < 41 → parseFieldDescriptor (TX11 k).2.2.1 = some (tyX11 k) := by decide +kernel
set_option maxRecDepth 20000 in
theorem inX0 : ∀ w ∈ wsX00, w ∈ lw_tbl := fun w h => (goodIn_r (big := lw_tbl) wsX00 [238, 240, 242, 244, 246, 248, 250, 252, 254, 256, 258, 260] (by decide +kernel) (by decide +kernel) w h).1
set_option maxRecDepth 20000 in
theorem inX1 : ∀ w ∈ wsX10, w ∈ lw_tbl := fun w h => (goodIn_r (big := lw_tbl) wsX10 [359, 361, 363] (by decide +kernel) (by decide +kernel) w h).1
set_option maxRecDepth 20000 in
theorem inX2 : ∀ w ∈ wsX20, w ∈ lw_tbl := fun w h => (goodIn_r (big := lw_tbl) wsX20 [283, 285, 287] (by decide +kernel) (by decide +kernel) w h).1
set_option maxRecDepth 20000 in
theorem inX3 : ∀ w ∈ wsX30, w ∈ lw_tbl := fun w h => (goodIn_r (big := lw_tbl) wsX30 [140, 142, 144, 146] (by decide +kernel) (by decide +kernel) w h).1
set_option maxRecDepth 20000 in
theorem inX4 : ∀ w ∈ wsX40, w ∈ lw_tbl := fun w h => (goodIn_r (big := lw_tbl) wsX40 [182, 184] (by decide +kernel) (by decide +kernel) w h).1
set_option maxRecDepth 20000 in
theorem inX5 : ∀ w ∈ wsX50, w ∈ lw_tbl := fun w h => (goodIn_r (big := lw_tbl) wsX50 [311, 313, 315, 317] (by decide +kernel) (by decide +kernel) w h).1
set_option maxRecDepth 20000 in
theorem inX6 : ∀ w ∈ wsX60, w ∈ lw_tbl := fun w h => (goodIn_r (big := lw_tbl) wsX60 [160, 162, 164, 166, 168] (by decide +kernel) (by decide +kernel) w h).1
set_option maxRecDepth 20000 in
theorem inX7 : ∀ w ∈ wsX70, w ∈ lw_tbl := fun w h => (goodIn_r (big := lw_tbl) wsX70 [338, 340, 342, 344, 346] (by decide +kernel) (by decide +kernel) w h).1
set_option maxRecDepth 20000 in
theorem inX8 : ∀ w ∈ wsX80, w ∈ lw_tbl := fun w h => (goodIn_r (big := lw_tbl) wsX80 [270] (by decide +kernel) (by decide +kernel) w h).1
set_option maxRecDepth 20000 in
theorem inX9 : ∀ w ∈ wsX90, w ∈ lw_tbl := fun w h => (goodIn_r (big := lw_tbl) wsX90 [123, 125] (by decide +kernel) (by decide +kernel) w h).1
set_option maxRecDepth 20000 in
theorem inX10 : ∀ w ∈ wsX100, w ∈ lw_tbl := fun w h => (goodIn_r (big := lw_tbl) wsX100 [561, 563, 565, 567, 569, 571, 573, 575, 577, 579, 581, 583, 585, 587, 589, 591] (by decide +kernel) (by decide +kernel) w h).1
set_option maxRecDepth 20000 in
theorem inX11 : ∀ w ∈ wsX110, w ∈ lw_tbl := fun w h => (goodIn_r (big := lw_tbl) wsX110 [1297, 1299, 1301, 1303, 1305, 1307, 1309, 1311, 1313, 1315, 1317, 1319, 1321, 1323, 1325, 1327, 1329, 1331, 1333, 1335, 1337, 1339, 1341, 1343, 1345, 1347, 1349, 1351, 1353, 1355, 1357, 1359, 1361, 1363, 1365, 1367, 1369, 1371, 1373, 1375, 1377] (by decide +kernel) (by decide +kernel) w h).1
abbrev vwCl : List vw_C := [(RX0, TX0, 12), (RX1, TX1, 3), (RX2, TX2, 3), (RX3, TX3, 4), (RX4, TX4, 2), (RX5, TX5, 4), (RX6, TX6, 5), (RX7, TX7, 5), (RX8, TX8, 1), (RX9, TX9, 2), (RX10, TX10, 16), (RX11, TX11, 41)]
abbrev aTyF : List (Nat → FieldType) := [tyX0, tyX1, tyX2, tyX3, tyX4, tyX5, tyX6, tyX7, tyX8, tyX9, tyX10, tyX11]
/-- what is known of a class: its words, its fields' types, their names apart -/
theorem aCl {c : Nat} {C : String} {T : u_T} {N : Nat} (h : vwCl[c]? = some (C, T, N)) : (∀ w ∈ u_ws C T N, w ∈ lw_tbl) ∧ (∀ k, k < N → parseFieldDescriptor (T k).2.2.1 = some ((aTyF.getD c tyX0) k)) ∧ (∀ a, a < N → ∀ b, b < N → a ≠ b → (T a).2.1 ≠ (T b).2.1) := by
  match c, h with
  | 0, h => cases h; exact ⟨inX0, tyX0_ok, nmX0⟩
  | 1, h => cases h; exact ⟨inX1, tyX1_ok, nmX1⟩
  | 2, h => cases h; exact ⟨inX2, tyX2_ok, nmX2⟩
  | 3, h => cases h; exact ⟨inX3, tyX3_ok, nmX3⟩
  | 4, h => cases h; exact ⟨inX4, tyX4_ok, nmX4⟩
  | 5, h => cases h; exact ⟨inX5, tyX5_ok, nmX5⟩
  | 6, h => cases h; exact ⟨inX6, tyX6_ok, nmX6⟩
  | 7, h => cases h; exact ⟨inX7, tyX7_ok, nmX7⟩
  | 8, h => cases h; exact ⟨inX8, tyX8_ok, nmX8⟩
  | 9, h => cases h; exact ⟨inX9, tyX9_ok, nmX9⟩
  | 10, h => cases h; exact ⟨inX10, tyX10_ok, nmX10⟩
  | 11, h => cases h; exact ⟨inX11, tyX11_ok, nmX11⟩
  | k + 12, h => simp at h
end
section
/-! the methods by their names in the tables; the words that calls, fields, constants need -/
abbrev aTb : List Cond := lw_tbl.filter goodWord
abbrev aNT : Type := MethodName × ByteArray × Option FieldType
def aNR0 : List aNT := [(⟨"java/lang/String", "length", "()I"⟩, prog_22_method_54_code, (some .int)), (⟨"java/lang/String", "coder", "()B"⟩, prog_22_method_152_code, (some .byte)), (⟨"java/lang/String", "charAt", "(I)C"⟩, prog_22_method_56_code, (some .char)), (⟨"java/lang/String", "isLatin1", "()Z"⟩, prog_22_method_154_code, (some .boolean)), (⟨"java/lang/StringLatin1", "charAt", "([BI)C"⟩, prog_23_method_2_code, (some .char)), (⟨"java/lang/String", "checkIndex", "(II)V"⟩, prog_22_method_155_code, none), (⟨"jdk/internal/util/Preconditions", "checkIndex", "(IILjava/util/function/BiFunction;)I"⟩, prog_30_method_11_code, (some .int)), (⟨"java/lang/String", "indexOf", "(I)I"⟩, prog_22_method_79_code, (some .int)), (⟨"java/lang/String", "indexOf", "(II)I"⟩, prog_22_method_80_code, (some .int)), (⟨"java/lang/StringLatin1", "indexOf", "([BIII)I"⟩, prog_23_method_22_code, (some .int)), (⟨"java/lang/StringLatin1", "canEncode", "(I)Z"⟩, prog_23_method_4_code, (some .boolean)), (⟨"java/lang/StringLatin1", "indexOfChar", "([BIII)I"⟩, prog_23_method_23_code, (some .int)), (⟨"java/lang/Integer", "bitCount", "(I)I"⟩, prog_19_method_49_code, (some .int)), (⟨"BluesAndGreens", "<init>", "()V"⟩, prog_1_method_1_code, none), (⟨"BluesAndGreens$Text", "<init>", "()V"⟩, prog_11_method_1_code, none), (⟨"BluesAndGreens$Reader", "<init>", "(LBluesAndGreens$Text;)V"⟩, prog_5_method_1_code, none), (⟨"BluesAndGreens$RuleReader", "<init>", "(LBluesAndGreens$Reader;)V"⟩, prog_8_method_1_code, none), (⟨"BluesAndGreens$Row", "<init>", "()V"⟩, prog_6_method_1_code, none)]
def aNR1 : List aNT := [(⟨"BluesAndGreens$City", "<init>", "()V"⟩, prog_2_method_1_code, none), (⟨"BluesAndGreens$State", "<init>", "()V"⟩, prog_10_method_1_code, none), (⟨"BluesAndGreens$Past", "<init>", "()V"⟩, prog_4_method_1_code, none), (⟨"BluesAndGreens$Rule", "<init>", "()V"⟩, prog_7_method_1_code, none), (⟨"BluesAndGreens$Runs", "<init>", "()V"⟩, prog_9_method_1_code, none), (⟨"BluesAndGreens$Heard", "<init>", "()V"⟩, prog_3_method_1_code, none), (⟨"BluesAndGreens", "readRule", "(LBluesAndGreens$Rule;)I"⟩, prog_1_method_66_code, (some .int)), (⟨"BluesAndGreens$Text", "put", "(Ljava/lang/String;)V"⟩, prog_11_method_3_code, none), (⟨"BluesAndGreens$Text", "append", "(C)V"⟩, prog_11_method_4_code, none), (⟨"BluesAndGreens$RuleReader", "readInto", "(LBluesAndGreens$Rule;)I"⟩, prog_8_method_2_code, (some .int)), (⟨"BluesAndGreens$Rule", "clear", "()V"⟩, prog_7_method_2_code, none), (⟨"BluesAndGreens$Reader", "open", "(I)V"⟩, prog_5_method_2_code, none), (⟨"BluesAndGreens$Reader", "peek", "()I"⟩, prog_5_method_3_code, (some .int)), (⟨"BluesAndGreens$RuleReader", "startThing", "(LBluesAndGreens$Rule;)Z"⟩, prog_8_method_3_code, (some .boolean)), (⟨"BluesAndGreens$RuleReader", "hold", "(I)V"⟩, prog_8_method_5_code, none), (⟨"BluesAndGreens$Reader", "step", "()V"⟩, prog_5_method_4_code, none), (⟨"BluesAndGreens$Rule", "add", "(I)V"⟩, prog_7_method_3_code, none), (⟨"BluesAndGreens$Reader", "number", "(I)I"⟩, prog_5_method_8_code, (some .int))]
def aNR2 : List aNT := [(⟨"BluesAndGreens$Reader", "take", "(II)I"⟩, prog_5_method_7_code, (some .int)), (⟨"BluesAndGreens$Reader", "failAt", "(I)V"⟩, prog_5_method_5_code, none), (⟨"BluesAndGreens$RuleReader", "goOn", "(LBluesAndGreens$Rule;)Z"⟩, prog_8_method_4_code, (some .boolean)), (⟨"BluesAndGreens$RuleReader", "bindingOf", "(I)I"⟩, prog_8_method_7_code, (some .int)), (⟨"BluesAndGreens$RuleReader", "settle", "(LBluesAndGreens$Rule;I)V"⟩, prog_8_method_6_code, none), (⟨"BluesAndGreens$Reader", "close", "(I)I"⟩, prog_5_method_6_code, (some .int)), (⟨"BluesAndGreens$Text", "cut", "(I)Z"⟩, prog_11_method_5_code, (some .boolean)), (⟨"BluesAndGreens", "sign", "(I)I"⟩, prog_1_method_2_code, (some .int)), (⟨"BluesAndGreens$Text", "add", "(I)I"⟩, prog_11_method_2_code, (some .int)), (⟨"BluesAndGreens", "end", "(I)Z"⟩, prog_1_method_3_code, (some .boolean)), (⟨"BluesAndGreens", "drivers", "()I"⟩, prog_1_method_4_code, (some .int)), (⟨"BluesAndGreens$Reader", "linesOf", "(CILBluesAndGreens$City;I)I"⟩, prog_5_method_10_code, (some .int)), (⟨"BluesAndGreens$Reader", "oneLine", "(CLBluesAndGreens$City;I)V"⟩, prog_5_method_11_code, none), (⟨"BluesAndGreens$Reader", "clubLetter", "()I"⟩, prog_5_method_9_code, (some .int)), (⟨"BluesAndGreens$Reader", "crowdNumber", "()I"⟩, prog_5_method_12_code, (some .int)), (⟨"BluesAndGreens$Reader", "gateLetters", "()I"⟩, prog_5_method_13_code, (some .int)), (⟨"BluesAndGreens$State", "enter", "(LBluesAndGreens$City;I)V"⟩, prog_10_method_5_code, none), (⟨"BluesAndGreens", "forgetStates", "()V"⟩, prog_1_method_67_code, none)]
def aNR3 : List aNT := [(⟨"BluesAndGreens$Past", "clear", "()V"⟩, prog_4_method_2_code, none), (⟨"BluesAndGreens", "quarters", "()I"⟩, prog_1_method_5_code, (some .int)), (⟨"BluesAndGreens", "quarrels", "()I"⟩, prog_1_method_6_code, (some .int)), (⟨"BluesAndGreens", "rule", "()I"⟩, prog_1_method_7_code, (some .int)), (⟨"BluesAndGreens$Rule", "copy", "(LBluesAndGreens$Rule;)V"⟩, prog_7_method_4_code, none), (⟨"BluesAndGreens", "limit", "(I)I"⟩, prog_1_method_13_code, (some .int)), (⟨"BluesAndGreens", "sheet", "(IIII)I"⟩, prog_1_method_14_code, (some .int)), (⟨"BluesAndGreens", "sheetPrice", "(II)I"⟩, prog_1_method_15_code, (some .int)), (⟨"BluesAndGreens", "race", "(I)I"⟩, prog_1_method_16_code, (some .int)), (⟨"BluesAndGreens$State", "copy", "(LBluesAndGreens$State;)V"⟩, prog_10_method_2_code, none), (⟨"BluesAndGreens$Runs", "run", "(LBluesAndGreens$City;LBluesAndGreens$State;LBluesAndGreens$Rule;I)I"⟩, prog_9_method_2_code, (some .int)), (⟨"BluesAndGreens$State", "runRace", "(LBluesAndGreens$City;LBluesAndGreens$Rule;)I"⟩, prog_10_method_22_code, (some .int)), (⟨"BluesAndGreens$Rule", "fastest", "(LBluesAndGreens$City;LBluesAndGreens$State;I)I"⟩, prog_7_method_5_code, (some .int)), (⟨"BluesAndGreens$Rule", "strengthOf", "(LBluesAndGreens$City;LBluesAndGreens$State;I)I"⟩, prog_7_method_6_code, (some .int)), (⟨"BluesAndGreens$State", "clubOf", "(I)I"⟩, prog_10_method_11_code, (some .int)), (⟨"BluesAndGreens$State", "cursedOnes", "()I"⟩, prog_10_method_10_code, (some .int)), (⟨"BluesAndGreens$State", "wonBy", "(I)I"⟩, prog_10_method_13_code, (some .int)), (⟨"BluesAndGreens$State", "racesRun", "()I"⟩, prog_10_method_9_code, (some .int))]
def aNR4 : List aNT := [(⟨"BluesAndGreens$State", "moneyOf", "(I)I"⟩, prog_10_method_6_code, (some .int)), (⟨"BluesAndGreens$State", "angerOf", "(I)I"⟩, prog_10_method_7_code, (some .int)), (⟨"BluesAndGreens$Rule", "joinTwo", "(III)I"⟩, prog_7_method_7_code, (some .int)), (⟨"BluesAndGreens", "isClub", "(I)Z"⟩, prog_1_method_68_code, (some .boolean)), (⟨"BluesAndGreens$State", "addMoney", "(II)V"⟩, prog_10_method_20_code, none), (⟨"BluesAndGreens$State", "addAnger", "(II)V"⟩, prog_10_method_21_code, none), (⟨"BluesAndGreens$State", "areJoined", "(LBluesAndGreens$City;)Z"⟩, prog_10_method_19_code, (some .boolean)), (⟨"BluesAndGreens$State", "lesserAnger", "()I"⟩, prog_10_method_17_code, (some .int)), (⟨"BluesAndGreens$Past", "push", "(LBluesAndGreens$State;)V"⟩, prog_4_method_3_code, none), (⟨"BluesAndGreens$State", "write", "([II)V"⟩, prog_10_method_3_code, none), (⟨"BluesAndGreens$Row", "tellTwo", "(JJ)V"⟩, prog_6_method_5_code, none), (⟨"BluesAndGreens$Row", "tellOne", "(J)V"⟩, prog_6_method_4_code, none), (⟨"BluesAndGreens$Row", "clear", "()V"⟩, prog_6_method_2_code, none), (⟨"BluesAndGreens$Row", "add", "(J)V"⟩, prog_6_method_3_code, none), (⟨"BluesAndGreens", "buy", "(II)I"⟩, prog_1_method_17_code, (some .int)), (⟨"BluesAndGreens$State", "purchase", "(LBluesAndGreens$City;II)I"⟩, prog_10_method_23_code, (some .int)), (⟨"BluesAndGreens$City", "hasDriver", "(I)Z"⟩, prog_2_method_2_code, (some .boolean)), (⟨"BluesAndGreens", "remembered", "(I)I"⟩, prog_1_method_22_code, (some .int))]
def aNR5 : List aNT := [(⟨"BluesAndGreens", "curse", "(II)I"⟩, prog_1_method_18_code, (some .int)), (⟨"BluesAndGreens$State", "hex", "(LBluesAndGreens$City;II)I"⟩, prog_10_method_24_code, (some .int)), (⟨"BluesAndGreens$State", "isCursed", "(I)Z"⟩, prog_10_method_12_code, (some .boolean)), (⟨"BluesAndGreens", "has", "(II)Z"⟩, prog_1_method_69_code, (some .boolean)), (⟨"BluesAndGreens", "dig", "(I)I"⟩, prog_1_method_19_code, (some .int)), (⟨"BluesAndGreens$State", "cleanse", "(LBluesAndGreens$City;I)I"⟩, prog_10_method_25_code, (some .int)), (⟨"BluesAndGreens", "grain", "(II)I"⟩, prog_1_method_20_code, (some .int)), (⟨"BluesAndGreens$State", "feed", "(II)I"⟩, prog_10_method_26_code, (some .int)), (⟨"BluesAndGreens", "show", "(II)I"⟩, prog_1_method_21_code, (some .int)), (⟨"BluesAndGreens$State", "takeSide", "(LBluesAndGreens$City;II)I"⟩, prog_10_method_27_code, (some .int)), (⟨"BluesAndGreens$City", "hasQuarrel", "(I)Z"⟩, prog_2_method_3_code, (some .boolean)), (⟨"BluesAndGreens$State", "sideOf", "(I)I"⟩, prog_10_method_14_code, (some .int)), (⟨"BluesAndGreens", "season", "()I"⟩, prog_1_method_23_code, (some .int)), (⟨"BluesAndGreens$Reader", "actsInto", "([I)I"⟩, prog_5_method_14_code, (some .int)), (⟨"BluesAndGreens", "doAct", "(I)I"⟩, prog_1_method_24_code, (some .int)), (⟨"BluesAndGreens", "undo", "()I"⟩, prog_1_method_25_code, (some .int)), (⟨"BluesAndGreens$Past", "pop", "(LBluesAndGreens$State;)I"⟩, prog_4_method_4_code, (some .int)), (⟨"BluesAndGreens$State", "read", "([II)V"⟩, prog_10_method_4_code, none)]
def aNR6 : List aNT := [(⟨"BluesAndGreens", "order", "()I"⟩, prog_1_method_26_code, (some .int)), (⟨"BluesAndGreens", "ahead", "(I)I"⟩, prog_1_method_27_code, (some .int)), (⟨"BluesAndGreens$Row", "tellThree", "(JJJ)V"⟩, prog_6_method_6_code, none), (⟨"BluesAndGreens", "joins", "()I"⟩, prog_1_method_28_code, (some .int)), (⟨"BluesAndGreens", "bribe", "(I)I"⟩, prog_1_method_29_code, (some .int)), (⟨"BluesAndGreens", "wins", "(LBluesAndGreens$State;I)Z"⟩, prog_1_method_30_code, (some .boolean)), (⟨"BluesAndGreens", "lead", "(I)I"⟩, prog_1_method_31_code, (some .int)), (⟨"BluesAndGreens", "hexAll", "(II)Z"⟩, prog_1_method_32_code, (some .boolean)), (⟨"BluesAndGreens", "stable", "(I)I"⟩, prog_1_method_33_code, (some .int)), (⟨"BluesAndGreens$State", "driversOf", "(LBluesAndGreens$City;I)I"⟩, prog_10_method_15_code, (some .int)), (⟨"BluesAndGreens$City", "skillsOf", "(I)I"⟩, prog_2_method_4_code, (some .int)), (⟨"BluesAndGreens$City", "sumOf", "([III)I"⟩, prog_2_method_7_code, (some .int)), (⟨"BluesAndGreens$City", "pricesOf", "(I)I"⟩, prog_2_method_5_code, (some .int)), (⟨"BluesAndGreens", "apart", "()I"⟩, prog_1_method_34_code, (some .int)), (⟨"BluesAndGreens$State", "openQuarrels", "(LBluesAndGreens$City;)I"⟩, prog_10_method_16_code, (some .int)), (⟨"BluesAndGreens", "joinBySides", "(I)Z"⟩, prog_1_method_35_code, (some .boolean)), (⟨"BluesAndGreens", "calm", "()I"⟩, prog_1_method_36_code, (some .int)), (⟨"BluesAndGreens$State", "greaterAnger", "()I"⟩, prog_10_method_18_code, (some .int))]
def aNR7 : List aNT := [(⟨"BluesAndGreens", "risky", "()I"⟩, prog_1_method_37_code, (some .int)), (⟨"BluesAndGreens", "worst", "()I"⟩, prog_1_method_38_code, (some .int)), (⟨"BluesAndGreens", "addedBy", "(II)I"⟩, prog_1_method_39_code, (some .int)), (⟨"BluesAndGreens", "riots", "(I)I"⟩, prog_1_method_40_code, (some .int)), (⟨"BluesAndGreens$City", "areQuarters", "(I)Z"⟩, prog_2_method_9_code, (some .boolean)), (⟨"BluesAndGreens$City", "allQuarters", "()I"⟩, prog_2_method_8_code, (some .int)), (⟨"BluesAndGreens", "firstOnes", "(I)I"⟩, prog_1_method_70_code, (some .int)), (⟨"BluesAndGreens$City", "spread", "(II)I"⟩, prog_2_method_13_code, (some .int)), (⟨"BluesAndGreens$City", "drawnIn", "(I)I"⟩, prog_2_method_14_code, (some .int)), (⟨"BluesAndGreens$City", "crowdsOf", "(I)I"⟩, prog_2_method_6_code, (some .int)), (⟨"BluesAndGreens", "spark", "()I"⟩, prog_1_method_41_code, (some .int)), (⟨"BluesAndGreens", "won", "(II)I"⟩, prog_1_method_42_code, (some .int)), (⟨"BluesAndGreens", "gates", "(II)I"⟩, prog_1_method_43_code, (some .int)), (⟨"BluesAndGreens$City", "keptIn", "(II)I"⟩, prog_2_method_12_code, (some .int)), (⟨"BluesAndGreens", "common", "(I)I"⟩, prog_1_method_44_code, (some .int)), (⟨"BluesAndGreens", "lots", "(III)I"⟩, prog_1_method_45_code, (some .int)), (⟨"BluesAndGreens", "ways", "(II)J"⟩, prog_1_method_47_code, (some .long)), (⟨"BluesAndGreens", "power", "(II)J"⟩, prog_1_method_48_code, (some .long))]
def aNR8 : List aNT := [(⟨"BluesAndGreens", "tellFraction", "(JJ)V"⟩, prog_1_method_49_code, none), (⟨"BluesAndGreens", "commonDivisor", "(JJ)J"⟩, prog_1_method_50_code, (some .long)), (⟨"BluesAndGreens", "bent", "(IIII)I"⟩, prog_1_method_46_code, (some .int)), (⟨"BluesAndGreens", "heard", "(II)I"⟩, prog_1_method_51_code, (some .int)), (⟨"BluesAndGreens$Heard", "add", "(II)I"⟩, prog_3_method_2_code, (some .int)), (⟨"BluesAndGreens$Heard", "mostOf", "(I)I"⟩, prog_3_method_3_code, (some .int)), (⟨"BluesAndGreens", "forget", "()I"⟩, prog_1_method_52_code, (some .int)), (⟨"BluesAndGreens$Heard", "clear", "()I"⟩, prog_3_method_4_code, (some .int)), (⟨"BluesAndGreens", "fits", "()I"⟩, prog_1_method_53_code, (some .int)), (⟨"BluesAndGreens$Heard", "fitting", "(LBluesAndGreens$City;)I"⟩, prog_3_method_5_code, (some .int)), (⟨"BluesAndGreens$Heard", "fitsAll", "(LBluesAndGreens$City;I)Z"⟩, prog_3_method_6_code, (some .boolean)), (⟨"BluesAndGreens$Heard", "fitsOne", "(LBluesAndGreens$City;III)Z"⟩, prog_3_method_7_code, (some .boolean)), (⟨"BluesAndGreens", "ask", "()I"⟩, prog_1_method_54_code, (some .int)), (⟨"BluesAndGreens$City", "quartersAt", "(I)I"⟩, prog_2_method_11_code, (some .int)), (⟨"BluesAndGreens", "rests", "(II)I"⟩, prog_1_method_55_code, (some .int)), (⟨"BluesAndGreens", "areAtRest", "(IIII)Z"⟩, prog_1_method_56_code, (some .boolean)), (⟨"BluesAndGreens", "blueHas", "(III)I"⟩, prog_1_method_57_code, (some .int)), (⟨"BluesAndGreens", "greenHas", "(III)I"⟩, prog_1_method_58_code, (some .int))]
def aNR9 : List aNT := [(⟨"BluesAndGreens", "law", "()I"⟩, prog_1_method_59_code, (some .int)), (⟨"BluesAndGreens", "years", "(II)I"⟩, prog_1_method_60_code, (some .int)), (⟨"BluesAndGreens", "drawnYear", "()I"⟩, prog_1_method_61_code, (some .int)), (⟨"BluesAndGreens$Runs", "draw", "(I)I"⟩, prog_9_method_3_code, (some .int)), (⟨"BluesAndGreens", "keep", "(I)Z"⟩, prog_1_method_62_code, (some .boolean)), (⟨"BluesAndGreens", "again", "(I)Z"⟩, prog_1_method_63_code, (some .boolean)), (⟨"BluesAndGreens", "count", "(I)I"⟩, prog_1_method_64_code, (some .int)), (⟨"BluesAndGreens", "driver", "(II)I"⟩, prog_1_method_8_code, (some .int)), (⟨"BluesAndGreens", "strength", "(I)I"⟩, prog_1_method_9_code, (some .int)), (⟨"BluesAndGreens", "quarter", "(II)I"⟩, prog_1_method_10_code, (some .int)), (⟨"BluesAndGreens", "quarrel", "(II)I"⟩, prog_1_method_11_code, (some .int)), (⟨"BluesAndGreens", "club", "(II)I"⟩, prog_1_method_12_code, (some .int)), (⟨"BluesAndGreens$State", "winsOf", "(I)I"⟩, prog_10_method_8_code, (some .int)), (⟨"BluesAndGreens$City", "quartersOf", "(I)I"⟩, prog_2_method_10_code, (some .int)), (⟨"BluesAndGreens", "row", "(I)J"⟩, prog_1_method_65_code, (some .long)), (⟨"BluesAndGreensModel", "<init>", "()V"⟩, prog_13_method_1_code, none), (⟨"BluesAndGreensModel", "thrown", "()I"⟩, prog_13_method_2_code, (some .int)), (⟨"BluesAndGreensModel", "sign", "(I)I"⟩, prog_13_method_10_code, (some .int))]
def aNR10 : List aNT := [(⟨"BluesAndGreensModel", "end", "(I)Z"⟩, prog_13_method_11_code, (some .boolean)), (⟨"BluesAndGreensModel", "in", "(III)Z"⟩, prog_13_method_3_code, (some .boolean)), (⟨"BluesAndGreensModel", "drivers", "()I"⟩, prog_13_method_24_code, (some .int)), (⟨"BluesAndGreensModel", "beginText", "(I)V"⟩, prog_13_method_13_code, none), (⟨"BluesAndGreensModel", "begin", "([BII)V"⟩, prog_13_method_12_code, none), (⟨"BluesAndGreensModel", "fine", "()Z"⟩, prog_13_method_15_code, (some .boolean)), (⟨"BluesAndGreensModel", "fault", "(I)V"⟩, prog_13_method_16_code, none), (⟨"BluesAndGreensModel", "oneOf", "(CI)I"⟩, prog_13_method_19_code, (some .int)), (⟨"BluesAndGreensModel", "here", "()I"⟩, prog_13_method_14_code, (some .int)), (⟨"BluesAndGreensModel", "number", "(I)I"⟩, prog_13_method_20_code, (some .int)), (⟨"BluesAndGreensModel", "readClub", "()I"⟩, prog_13_method_22_code, (some .int)), (⟨"BluesAndGreensModel", "passes", "(C)Z"⟩, prog_13_method_17_code, (some .boolean)), (⟨"BluesAndGreensModel", "need", "(C)V"⟩, prog_13_method_18_code, none), (⟨"BluesAndGreensModel", "wasRight", "()Z"⟩, prog_13_method_21_code, (some .boolean)), (⟨"BluesAndGreensModel", "told", "()V"⟩, prog_13_method_23_code, none), (⟨"BluesAndGreensModel", "quarters", "()I"⟩, prog_13_method_26_code, (some .int)), (⟨"BluesAndGreensModel", "readQuarter", "(I)V"⟩, prog_13_method_25_code, none), (⟨"BluesAndGreensModel", "quarrels", "()I"⟩, prog_13_method_27_code, (some .int))]
def aNR11 : List aNT := [(⟨"BluesAndGreensModel", "rule", "()I"⟩, prog_13_method_34_code, (some .int)), (⟨"BluesAndGreensModel", "readRule", "()Z"⟩, prog_13_method_33_code, (some .boolean)), (⟨"BluesAndGreensModel", "held", "(I)I"⟩, prog_13_method_28_code, (some .int)), (⟨"BluesAndGreensModel", "sum", "(I)I"⟩, prog_13_method_29_code, (some .int)), (⟨"BluesAndGreensModel", "product", "(I)I"⟩, prog_13_method_30_code, (some .int)), (⟨"BluesAndGreensModel", "thing", "(I)I"⟩, prog_13_method_32_code, (some .int)), (⟨"BluesAndGreensModel", "letterOf", "(I)I"⟩, prog_13_method_31_code, (some .int)), (⟨"BluesAndGreensModel", "driver", "(II)I"⟩, prog_13_method_36_code, (some .int)), (⟨"BluesAndGreensModel", "isDriver", "(I)Z"⟩, prog_13_method_7_code, (some .boolean)), (⟨"BluesAndGreensModel", "lost", "()I"⟩, prog_13_method_5_code, (some .int)), (⟨"BluesAndGreensModel", "strength", "(I)I"⟩, prog_13_method_37_code, (some .int)), (⟨"BluesAndGreensModel", "strengthOf", "([II)I"⟩, prog_13_method_35_code, (some .int)), (⟨"BluesAndGreensModel", "quarter", "(II)I"⟩, prog_13_method_38_code, (some .int)), (⟨"BluesAndGreensModel", "quarrel", "(II)I"⟩, prog_13_method_39_code, (some .int)), (⟨"BluesAndGreensModel", "club", "(II)I"⟩, prog_13_method_43_code, (some .int)), (⟨"BluesAndGreensModel", "isClub", "(I)Z"⟩, prog_13_method_8_code, (some .boolean)), (⟨"BluesAndGreensModel", "driversOf", "([II)I"⟩, prog_13_method_40_code, (some .int)), (⟨"BluesAndGreensModel", "quartersOf", "(I)I"⟩, prog_13_method_41_code, (some .int))]
def aNR12 : List aNT := [(⟨"BluesAndGreensModel", "crowdsOf", "(I)I"⟩, prog_13_method_42_code, (some .int)), (⟨"BluesAndGreensModel", "has", "(II)Z"⟩, prog_13_method_4_code, (some .boolean)), (⟨"BluesAndGreensModel", "limit", "(I)I"⟩, prog_13_method_44_code, (some .int)), (⟨"BluesAndGreensModel", "sheet", "(IIII)I"⟩, prog_13_method_45_code, (some .int)), (⟨"BluesAndGreensModel", "race", "(I)I"⟩, prog_13_method_54_code, (some .int)), (⟨"BluesAndGreensModel", "remember", "([I)V"⟩, prog_13_method_47_code, none), (⟨"BluesAndGreensModel", "lay", "([I[II)V"⟩, prog_13_method_46_code, none), (⟨"BluesAndGreensModel", "goRaces", "([II)V"⟩, prog_13_method_53_code, none), (⟨"BluesAndGreensModel", "goRace", "([I)I"⟩, prog_13_method_52_code, (some .int)), (⟨"BluesAndGreensModel", "winner", "([I)I"⟩, prog_13_method_51_code, (some .int)), (⟨"BluesAndGreensModel", "gets", "([III)V"⟩, prog_13_method_49_code, none), (⟨"BluesAndGreensModel", "angers", "([III)V"⟩, prog_13_method_50_code, none), (⟨"BluesAndGreensModel", "doJoin", "([I)Z"⟩, prog_13_method_48_code, (some .boolean)), (⟨"BluesAndGreensModel", "tell", "(J)V"⟩, prog_13_method_6_code, none), (⟨"BluesAndGreensModel", "buy", "(II)I"⟩, prog_13_method_57_code, (some .int)), (⟨"BluesAndGreensModel", "refusesBuy", "([III)I"⟩, prog_13_method_55_code, (some .int)), (⟨"BluesAndGreensModel", "goBuy", "([III)V"⟩, prog_13_method_56_code, none), (⟨"BluesAndGreensModel", "curse", "(II)I"⟩, prog_13_method_60_code, (some .int))]
def aNR13 : List aNT := [(⟨"BluesAndGreensModel", "refusesCurse", "(II)I"⟩, prog_13_method_58_code, (some .int)), (⟨"BluesAndGreensModel", "goCurse", "([III)V"⟩, prog_13_method_59_code, none), (⟨"BluesAndGreensModel", "dig", "(I)I"⟩, prog_13_method_63_code, (some .int)), (⟨"BluesAndGreensModel", "refusesDig", "(I)I"⟩, prog_13_method_61_code, (some .int)), (⟨"BluesAndGreensModel", "goDig", "(I)V"⟩, prog_13_method_62_code, none), (⟨"BluesAndGreensModel", "grain", "(II)I"⟩, prog_13_method_64_code, (some .int)), (⟨"BluesAndGreensModel", "show", "(II)I"⟩, prog_13_method_67_code, (some .int)), (⟨"BluesAndGreensModel", "refusesShow", "(II)I"⟩, prog_13_method_65_code, (some .int)), (⟨"BluesAndGreensModel", "goShow", "([III)V"⟩, prog_13_method_66_code, none), (⟨"BluesAndGreensModel", "season", "()I"⟩, prog_13_method_68_code, (some .int)), (⟨"BluesAndGreensModel", "readAct", "(I)V"⟩, prog_13_method_69_code, none), (⟨"BluesAndGreensModel", "act", "(III)Z"⟩, prog_13_method_70_code, (some .boolean)), (⟨"BluesAndGreensModel", "undo", "()I"⟩, prog_13_method_71_code, (some .int)), (⟨"BluesAndGreensModel", "order", "()I"⟩, prog_13_method_72_code, (some .int)), (⟨"BluesAndGreensModel", "ahead", "(I)I"⟩, prog_13_method_73_code, (some .int)), (⟨"BluesAndGreensModel", "joins", "()I"⟩, prog_13_method_74_code, (some .int)), (⟨"BluesAndGreensModel", "bribe", "(I)I"⟩, prog_13_method_76_code, (some .int)), (⟨"BluesAndGreensModel", "doesWin", "([II)Z"⟩, prog_13_method_75_code, (some .boolean))]
def aNR14 : List aNT := [(⟨"BluesAndGreensModel", "lead", "(I)I"⟩, prog_13_method_77_code, (some .int)), (⟨"BluesAndGreensModel", "areToCurse", "(II)Z"⟩, prog_13_method_78_code, (some .boolean)), (⟨"BluesAndGreensModel", "stable", "(I)I"⟩, prog_13_method_80_code, (some .int)), (⟨"BluesAndGreensModel", "sumOf", "([II)I"⟩, prog_13_method_79_code, (some .int)), (⟨"BluesAndGreensModel", "apart", "()I"⟩, prog_13_method_83_code, (some .int)), (⟨"BluesAndGreensModel", "notShown", "()I"⟩, prog_13_method_81_code, (some .int)), (⟨"BluesAndGreensModel", "doesSet", "(II)Z"⟩, prog_13_method_82_code, (some .boolean)), (⟨"BluesAndGreensModel", "calm", "()I"⟩, prog_13_method_84_code, (some .int)), (⟨"BluesAndGreensModel", "risky", "()I"⟩, prog_13_method_85_code, (some .int)), (⟨"BluesAndGreensModel", "worst", "()I"⟩, prog_13_method_87_code, (some .int)), (⟨"BluesAndGreensModel", "adds", "(II)I"⟩, prog_13_method_86_code, (some .int)), (⟨"BluesAndGreensModel", "riots", "(I)I"⟩, prog_13_method_90_code, (some .int)), (⟨"BluesAndGreensModel", "areQuarters", "(I)Z"⟩, prog_13_method_9_code, (some .boolean)), (⟨"BluesAndGreensModel", "riotsBy", "(II)I"⟩, prog_13_method_88_code, (some .int)), (⟨"BluesAndGreensModel", "spark", "()I"⟩, prog_13_method_91_code, (some .int)), (⟨"BluesAndGreensModel", "allQuarters", "()I"⟩, prog_13_method_89_code, (some .int)), (⟨"BluesAndGreensModel", "won", "(II)I"⟩, prog_13_method_92_code, (some .int)), (⟨"BluesAndGreensModel", "gates", "(II)I"⟩, prog_13_method_94_code, (some .int))]
def aNR15 : List aNT := [(⟨"BluesAndGreensModel", "keptIn", "(II)I"⟩, prog_13_method_93_code, (some .int)), (⟨"BluesAndGreensModel", "common", "(I)I"⟩, prog_13_method_95_code, (some .int)), (⟨"BluesAndGreensModel", "lots", "(III)I"⟩, prog_13_method_99_code, (some .int)), (⟨"BluesAndGreensModel", "power", "(JI)J"⟩, prog_13_method_98_code, (some .long)), (⟨"BluesAndGreensModel", "tellPart", "(JJ)V"⟩, prog_13_method_97_code, none), (⟨"BluesAndGreensModel", "common2", "(JJ)J"⟩, prog_13_method_96_code, (some .long)), (⟨"BluesAndGreensModel", "bent", "(IIII)I"⟩, prog_13_method_100_code, (some .int)), (⟨"BluesAndGreensModel", "heard", "(II)I"⟩, prog_13_method_101_code, (some .int)), (⟨"BluesAndGreensModel", "forget", "()I"⟩, prog_13_method_102_code, (some .int)), (⟨"BluesAndGreensModel", "fits", "()I"⟩, prog_13_method_105_code, (some .int)), (⟨"BluesAndGreensModel", "fitting", "()I"⟩, prog_13_method_104_code, (some .int)), (⟨"BluesAndGreensModel", "fits", "(III)Z"⟩, prog_13_method_103_code, (some .boolean)), (⟨"BluesAndGreensModel", "ask", "()I"⟩, prog_13_method_106_code, (some .int)), (⟨"BluesAndGreensModel", "rests", "(II)I"⟩, prog_13_method_110_code, (some .int)), (⟨"BluesAndGreensModel", "isRest", "(IIII)Z"⟩, prog_13_method_109_code, (some .boolean)), (⟨"BluesAndGreensModel", "blueGets", "(III)I"⟩, prog_13_method_107_code, (some .int)), (⟨"BluesAndGreensModel", "greenGets", "(III)I"⟩, prog_13_method_108_code, (some .int)), (⟨"BluesAndGreensModel", "law", "()I"⟩, prog_13_method_112_code, (some .int))]
def aNR16 : List aNT := [(⟨"BluesAndGreensModel", "bluesOf", "(I)I"⟩, prog_13_method_111_code, (some .int)), (⟨"BluesAndGreensModel", "years", "(II)I"⟩, prog_13_method_114_code, (some .int)), (⟨"BluesAndGreensModel", "draw", "(I)I"⟩, prog_13_method_113_code, (some .int)), (⟨"BluesAndGreensModel", "keep", "(I)Z"⟩, prog_13_method_115_code, (some .boolean)), (⟨"BluesAndGreensModel", "again", "(I)Z"⟩, prog_13_method_116_code, (some .boolean)), (⟨"BluesAndGreensModel", "count", "(I)I"⟩, prog_13_method_118_code, (some .int)), (⟨"BluesAndGreensModel", "cursedBits", "()I"⟩, prog_13_method_117_code, (some .int)), (⟨"BluesAndGreensModel", "row", "(I)J"⟩, prog_13_method_119_code, (some .long)), (⟨"BluesAndGreensLaw", "law", "([I)Z"⟩, code, (some .boolean)), (⟨"BluesAndGreensLaw", "driver", "(LBluesAndGreens;II[J)I"⟩, method_3_code, (some .int)), (⟨"BluesAndGreensLaw", "strength", "(LBluesAndGreens;I[J)I"⟩, method_4_code, (some .int)), (⟨"BluesAndGreensLaw", "quarter", "(LBluesAndGreens;II[J)I"⟩, method_5_code, (some .int)), (⟨"BluesAndGreensLaw", "quarrel", "(LBluesAndGreens;II[J)I"⟩, method_6_code, (some .int)), (⟨"BluesAndGreensLaw", "club", "(LBluesAndGreens;II[J)I"⟩, method_7_code, (some .int)), (⟨"BluesAndGreensLaw", "row", "(LBluesAndGreens;I[J)I"⟩, method_8_code, (some .int))]
def aNTab : List (List aNT) := [aNR0, aNR1, aNR2, aNR3, aNR4, aNR5, aNR6, aNR7, aNR8, aNR9, aNR10, aNR11, aNR12, aNR13, aNR14, aNR15, aNR16]
def aNm (k : Nat) : aNT := (aNTab.getD (k / 18) []).getD (k % 18) (⟨"", "", ""⟩, ⟨#[]⟩, none)
def aWd (i : Nat) (w : Cond) : Bool := decide (lw_tbl[i]? = some w) && goodWord w
theorem aWd_in {i : Nat} {w : Cond} (h : aWd i w = true) : w ∈ aTb := by
  unfold aWd at h
  rw [Bool.and_eq_true, decide_eq_true_eq] at h
  exact List.mem_filter.mpr ⟨List.mem_of_getElem? h.1, h.2⟩
/-- a method that is called: its code's word, static or not, its class begun, how it is chosen, its parameters, its kind of answer, its locals -/
def aRk (r : Option FieldType) : Nat := match r with
  | none => 0
  | some .int => 1
  | some .long => 2
  | some .boolean => 3
  | some .char => 4
  | some .byte => 5
  | _ => 9
def aMs (k : Nat) : Bool := decide (aRk (aNm k).2.2 = (aMt k).2.2.2.1) && decide ((aMt k).2.2.1 ≤ 11) && decide ((aMt k).2.2.2.2 ≤ 14) && plainName (aNm k).1.cls && decide ((aNm k).1.cls ≠ "java/lang/invoke/MethodHandle") && decide ((aNm k).1.cls ≠ "java/lang/invoke/VarHandle")
def aMk (q : Nat × Nat × Nat × Nat × Nat × Nat) : Bool := match q with
  | (k, g, p1, p2, p3, p4) => aMs k && aWd p3 (.initialized (aNm k).1.cls) &&
    (match g with
    | 0 => aWd p2 (.static (aNm k).1) && decide ((parseMethodDescriptor (aNm k).1.desc).map (fun d => d.parameters.length) = some (aMt k).2.1)
    | 1 => aWd p2 (.instanceMethod (aNm k).1) && aWd p4 (.selects (aNm k).1.cls (aNm k).1 (aNm k).1) && decide ((parseMethodDescriptor (aNm k).1.desc).map (fun d => d.parameters.length + 1) = some (aMt k).2.1) && decide ((aNm k).1.name ≠ "<init>")
    | _ => aWd p2 (.instanceMethod (aNm k).1) && decide ((aNm k).1.name = "<init>") && decide ((aNm k).2.2 = none) && decide ((parseMethodDescriptor (aNm k).1.desc).map (fun d => d.parameters.length + 1) = some (aMt k).2.1))
def aML0 : List (Nat × Nat × Nat × Nat × Nat × Nat) := [(0, 1, 300, 298, 89, 299), (1, 1, 304, 302, 89, 303), (2, 1, 379, 377, 89, 378), (3, 1, 383, 381, 89, 382), (4, 0, 386, 385, 92, 0), (5, 0, 389, 388, 89, 0), (6, 0, 394, 393, 93, 0), (7, 1, 442, 440, 89, 441), (8, 1, 446, 444, 89, 445), (9, 0, 450, 449, 92, 0), (10, 0, 453, 452, 92, 0), (11, 0, 462, 461, 92, 0), (12, 0, 909, 908, 103, 0), (13, 2, 108, 107, 80, 0), (14, 2, 116, 115, 81, 0), (15, 2, 133, 132, 82, 0), (16, 2, 153, 152, 83, 0), (17, 2, 176, 175, 84, 0), (18, 2, 192, 191, 85, 0), (19, 2, 267, 266, 86, 0), (20, 2, 277, 276, 87, 0), (21, 2, 294, 293, 88, 0), (22, 2, 326, 325, 90, 0), (23, 2, 353, 352, 91, 0), (24, 1, 369, 368, 80, 0), (25, 1, 374, 372, 81, 373), (26, 1, 417, 416, 81, 1), (27, 1, 421, 419, 83, 420), (28, 1, 425, 423, 88, 424), (29, 1, 429, 427, 82, 428), (30, 1, 433, 431, 82, 432), (31, 1, 437, 436, 83, 2), (32, 1, 501, 500, 83, 3), (33, 1, 505, 503, 82, 504), (34, 1, 509, 507, 88, 508), (35, 1, 513, 511, 82, 512), (36, 1, 517, 515, 82, 516), (37, 1, 522, 520, 82, 521), (38, 1, 527, 526, 83, 4), (39, 0, 530, 529, 83, 0)]
def aML1 : List (Nat × Nat × Nat × Nat × Nat × Nat) := [(40, 1, 534, 533, 83, 5), (41, 1, 540, 538, 82, 539), (42, 1, 544, 542, 81, 543), (43, 1, 597, 595, 80, 596), (44, 1, 601, 599, 81, 600), (45, 1, 605, 603, 80, 604), (46, 1, 609, 607, 80, 608), (47, 1, 613, 611, 82, 612), (48, 1, 618, 617, 82, 6), (49, 1, 623, 622, 82, 7), (50, 1, 627, 626, 82, 8), (51, 1, 631, 630, 82, 9), (52, 1, 636, 634, 86, 635), (53, 1, 640, 639, 80, 10), (54, 1, 644, 642, 87, 643), (55, 1, 648, 646, 80, 647), (56, 1, 652, 650, 80, 651), (57, 1, 656, 654, 80, 655), (58, 1, 660, 658, 88, 659), (59, 1, 667, 665, 80, 666), (60, 1, 671, 669, 80, 670), (61, 0, 674, 673, 80, 0), (62, 1, 680, 678, 80, 679), (63, 1, 684, 682, 86, 683), (64, 1, 689, 687, 90, 688), (65, 1, 693, 691, 86, 692), (66, 1, 697, 695, 88, 696), (67, 1, 701, 699, 88, 700), (68, 1, 705, 703, 86, 704), (69, 1, 709, 707, 86, 708), (70, 1, 713, 711, 86, 712), (71, 1, 717, 715, 86, 716), (72, 1, 721, 719, 86, 720), (73, 1, 725, 723, 86, 724), (74, 0, 728, 727, 88, 0), (75, 0, 732, 731, 80, 0), (76, 1, 736, 735, 86, 11), (77, 1, 741, 740, 86, 12), (78, 1, 748, 746, 86, 747), (79, 1, 752, 750, 86, 751)]
def aML2 : List (Nat × Nat × Nat × Nat × Nat × Nat) := [(80, 1, 756, 754, 87, 755), (81, 1, 760, 758, 86, 759), (82, 1, 765, 763, 84, 764), (83, 1, 769, 767, 84, 768), (84, 1, 773, 771, 84, 772), (85, 1, 777, 775, 84, 776), (86, 1, 781, 779, 80, 780), (87, 1, 785, 783, 86, 784), (88, 1, 789, 787, 85, 788), (89, 1, 794, 793, 80, 13), (90, 1, 798, 796, 80, 797), (91, 1, 802, 800, 86, 801), (92, 1, 806, 804, 86, 805), (93, 0, 809, 808, 80, 0), (94, 1, 813, 811, 80, 812), (95, 1, 817, 815, 86, 816), (96, 1, 821, 819, 80, 820), (97, 1, 825, 823, 86, 824), (98, 1, 830, 828, 80, 829), (99, 1, 834, 832, 86, 833), (100, 1, 838, 836, 85, 837), (101, 1, 842, 840, 86, 841), (102, 1, 847, 845, 80, 846), (103, 1, 851, 849, 82, 850), (104, 1, 855, 854, 80, 14), (105, 1, 860, 858, 80, 859), (106, 1, 864, 862, 87, 863), (107, 1, 868, 866, 86, 867), (108, 1, 872, 870, 80, 871), (109, 1, 879, 877, 80, 878), (110, 1, 883, 881, 84, 882), (111, 1, 888, 886, 80, 887), (112, 1, 894, 892, 80, 893), (113, 1, 899, 898, 80, 15), (114, 1, 906, 904, 80, 905), (115, 1, 916, 915, 80, 16), (116, 1, 921, 919, 80, 920), (117, 1, 925, 923, 86, 924), (118, 1, 929, 927, 85, 928), (119, 0, 932, 931, 85, 0)]
def aML3 : List (Nat × Nat × Nat × Nat × Nat × Nat) := [(120, 1, 937, 935, 85, 936), (121, 1, 942, 940, 80, 941), (122, 1, 946, 944, 86, 945), (123, 1, 950, 949, 80, 17), (124, 1, 954, 952, 80, 953), (125, 1, 959, 957, 86, 958), (126, 1, 963, 961, 80, 962), (127, 1, 967, 965, 80, 966), (128, 1, 971, 970, 80, 18), (129, 1, 975, 973, 80, 974), (130, 1, 979, 977, 85, 978), (131, 1, 983, 981, 85, 982), (132, 0, 986, 985, 80, 0), (133, 1, 990, 988, 85, 989), (134, 1, 995, 994, 85, 19), (135, 1, 999, 997, 85, 998), (136, 1, 1003, 1001, 80, 1002), (137, 1, 1008, 1006, 80, 1007), (138, 1, 1012, 1010, 80, 1011), (139, 1, 1016, 1014, 85, 1015), (140, 1, 1020, 1018, 80, 1019), (141, 1, 1024, 1022, 80, 1023), (142, 0, 1027, 1026, 80, 0), (143, 0, 1030, 1029, 80, 0), (144, 1, 1034, 1033, 80, 20), (145, 0, 1037, 1036, 80, 0), (146, 1, 1041, 1039, 80, 1040), (147, 1, 1045, 1043, 80, 1044), (148, 1, 1049, 1047, 91, 1048), (149, 0, 1052, 1051, 91, 0), (150, 1, 1056, 1054, 80, 1055), (151, 1, 1060, 1058, 91, 1059), (152, 1, 1064, 1062, 80, 1063), (153, 1, 1068, 1066, 91, 1067), (154, 1, 1072, 1071, 91, 21), (155, 0, 1075, 1074, 91, 0), (156, 1, 1080, 1078, 80, 1079), (157, 1, 1084, 1082, 85, 1083), (158, 1, 1088, 1086, 80, 1087), (159, 0, 1091, 1090, 80, 0)]
def aML4 : List (Nat × Nat × Nat × Nat × Nat × Nat) := [(160, 0, 1094, 1093, 80, 0), (161, 0, 1097, 1096, 80, 0), (162, 1, 1101, 1099, 80, 1100), (163, 1, 1105, 1103, 80, 1104), (164, 1, 1109, 1108, 80, 22), (165, 1, 1113, 1111, 90, 1112), (166, 1, 1118, 1116, 80, 1117), (167, 1, 1123, 1121, 80, 1122), (168, 1, 1128, 1126, 80, 1127), (169, 1, 1139, 1137, 80, 1138), (170, 1, 1210, 1208, 80, 1209), (171, 1, 1218, 1216, 80, 1217), (172, 1, 1225, 1223, 80, 1224), (173, 1, 1234, 1232, 80, 1233), (174, 1, 1238, 1236, 86, 1237), (175, 1, 1242, 1240, 85, 1241), (176, 1, 1249, 1247, 80, 1248), (177, 2, 1254, 1253, 97, 0), (178, 1, 1383, 1381, 97, 1382), (179, 1, 1387, 1385, 97, 1386), (180, 1, 1391, 1389, 97, 1390), (181, 0, 1394, 1393, 97, 0), (182, 1, 1398, 1396, 97, 1397), (183, 1, 1402, 1401, 97, 24), (184, 1, 1406, 1405, 97, 25), (185, 1, 1410, 1409, 97, 26), (186, 1, 1414, 1413, 97, 27), (187, 1, 1418, 1417, 97, 28), (188, 1, 1422, 1421, 97, 29), (189, 1, 1426, 1425, 97, 30), (190, 1, 1430, 1429, 97, 31), (191, 1, 1434, 1433, 97, 32), (192, 1, 1438, 1437, 97, 33), (193, 1, 1442, 1441, 97, 34), (194, 1, 1446, 1445, 97, 35), (195, 1, 1450, 1448, 97, 1449), (196, 1, 1454, 1453, 97, 36), (197, 1, 1458, 1456, 97, 1457), (198, 1, 1462, 1460, 97, 1461), (199, 1, 1466, 1465, 97, 37)]
def aML5 : List (Nat × Nat × Nat × Nat × Nat × Nat) := [(200, 1, 1470, 1469, 97, 38), (201, 1, 1474, 1473, 97, 39), (202, 1, 1478, 1477, 97, 40), (203, 1, 1482, 1481, 97, 41), (204, 0, 1485, 1484, 97, 0), (205, 1, 1489, 1487, 97, 1488), (206, 1, 1493, 1492, 97, 42), (207, 1, 1497, 1496, 97, 43), (208, 1, 1501, 1499, 97, 1500), (209, 1, 1505, 1504, 97, 44), (210, 1, 1509, 1507, 97, 1508), (211, 1, 1513, 1511, 97, 1512), (212, 1, 1517, 1515, 97, 1516), (213, 0, 1520, 1519, 97, 0), (214, 1, 1524, 1523, 97, 45), (215, 1, 1528, 1527, 97, 46), (216, 1, 1532, 1531, 97, 47), (217, 0, 1535, 1534, 97, 0), (218, 1, 1539, 1537, 97, 1538), (219, 1, 1543, 1541, 97, 1542), (220, 1, 1549, 1547, 97, 1548), (221, 1, 1553, 1552, 97, 48), (222, 0, 1556, 1555, 97, 0), (223, 1, 1560, 1559, 97, 49), (224, 1, 1564, 1563, 97, 50), (225, 1, 1568, 1567, 97, 51), (226, 0, 1571, 1570, 97, 0), (227, 0, 1574, 1573, 97, 0), (228, 1, 1578, 1577, 97, 52), (229, 1, 1582, 1581, 97, 53), (230, 1, 1586, 1584, 97, 1585), (231, 1, 1590, 1589, 97, 54), (232, 1, 1594, 1593, 97, 55), (233, 1, 1598, 1596, 97, 1597), (234, 1, 1602, 1601, 97, 56), (235, 0, 1605, 1604, 97, 0), (236, 1, 1609, 1607, 97, 1608), (237, 1, 1613, 1612, 97, 57), (238, 1, 1617, 1616, 97, 58), (239, 1, 1621, 1619, 97, 1620)]
def aML6 : List (Nat × Nat × Nat × Nat × Nat × Nat) := [(240, 1, 1625, 1623, 97, 1624), (241, 1, 1629, 1628, 97, 59), (242, 1, 1633, 1632, 97, 60), (243, 1, 1637, 1635, 97, 1636), (244, 1, 1641, 1640, 97, 61), (245, 1, 1645, 1644, 97, 62), (246, 1, 1649, 1647, 97, 1648), (247, 1, 1653, 1651, 97, 1652), (248, 1, 1657, 1655, 97, 1656), (249, 1, 1661, 1659, 97, 1660), (250, 1, 1665, 1663, 97, 1664), (251, 1, 1669, 1668, 97, 63), (252, 1, 1673, 1671, 97, 1672), (253, 1, 1678, 1677, 97, 64), (254, 1, 1682, 1680, 97, 1681), (255, 1, 1686, 1685, 97, 65), (256, 1, 1690, 1688, 97, 1689), (257, 1, 1694, 1693, 97, 66), (258, 1, 1698, 1697, 97, 67), (259, 1, 1702, 1700, 97, 1701), (260, 1, 1706, 1704, 97, 1705), (261, 1, 1710, 1708, 97, 1709), (262, 1, 1714, 1713, 97, 68), (263, 1, 1718, 1716, 97, 1717), (264, 1, 1722, 1721, 97, 69), (265, 1, 1726, 1725, 97, 70), (266, 1, 1730, 1728, 97, 1729), (267, 1, 1734, 1733, 97, 71), (268, 1, 1738, 1736, 97, 1737), (269, 1, 1742, 1740, 97, 1741), (270, 1, 1746, 1745, 97, 72), (271, 1, 1750, 1748, 97, 1749), (272, 1, 1754, 1752, 97, 1753), (273, 0, 1757, 1756, 97, 0), (274, 1, 1762, 1761, 97, 73), (275, 0, 1765, 1764, 97, 0), (276, 1, 1769, 1767, 97, 1768), (277, 1, 1774, 1772, 97, 1773), (278, 1, 1778, 1776, 97, 1777), (279, 1, 1782, 1780, 97, 1781)]
def aML7 : List (Nat × Nat × Nat × Nat × Nat × Nat) := [(280, 1, 1786, 1785, 97, 74), (281, 1, 1790, 1789, 97, 75), (282, 1, 1794, 1792, 97, 1793), (283, 1, 1799, 1797, 97, 1798), (284, 0, 1802, 1801, 97, 0), (285, 0, 1805, 1804, 97, 0), (286, 0, 1808, 1807, 97, 0), (287, 1, 1812, 1810, 97, 1811), (288, 1, 1816, 1815, 97, 76), (289, 1, 1820, 1818, 97, 1819), (290, 1, 1824, 1823, 97, 77), (291, 1, 1829, 1827, 97, 1828), (292, 1, 1833, 1831, 97, 1832), (293, 1, 1837, 1835, 97, 1836), (294, 1, 1841, 1840, 97, 78), (295, 1, 1845, 1843, 97, 1844)]
set_option maxRecDepth 100000 in
theorem aML0_ok : aML0.all aMk = true := by decide +kernel
set_option maxRecDepth 100000 in
theorem aML1_ok : aML1.all aMk = true := by decide +kernel
set_option maxRecDepth 100000 in
theorem aML2_ok : aML2.all aMk = true := by decide +kernel
set_option maxRecDepth 100000 in
theorem aML3_ok : aML3.all aMk = true := by decide +kernel
set_option maxRecDepth 100000 in
theorem aML4_ok : aML4.all aMk = true := by decide +kernel
set_option maxRecDepth 100000 in
theorem aML5_ok : aML5.all aMk = true := by decide +kernel
set_option maxRecDepth 100000 in
theorem aML6_ok : aML6.all aMk = true := by decide +kernel
set_option maxRecDepth 100000 in
theorem aML7_ok : aML7.all aMk = true := by decide +kernel
def aML : List (Nat × Nat × Nat × Nat × Nat × Nat) := aML0 ++ (aML1 ++ (aML2 ++ (aML3 ++ (aML4 ++ (aML5 ++ (aML6 ++ (aML7)))))))
theorem aML_ok : ∀ q ∈ aML, aMk q = true := by
  intro q h
  unfold aML at h
  simp only [List.mem_append] at h
  rcases h with h | h | h | h | h | h | h | h
  · exact List.all_eq_true.mp aML0_ok q h
  · exact List.all_eq_true.mp aML1_ok q h
  · exact List.all_eq_true.mp aML2_ok q h
  · exact List.all_eq_true.mp aML3_ok q h
  · exact List.all_eq_true.mp aML4_ok q h
  · exact List.all_eq_true.mp aML5_ok q h
  · exact List.all_eq_true.mp aML6_ok q h
  · exact List.all_eq_true.mp aML7_ok q h
abbrev aCd (k : Nat) : Cond := .code (aNm k).1 (aNm k).2.1 (aMt k).2.2.1 (aNm k).2.2
set_option maxRecDepth 100000 in
theorem aMC0 : GoodIn lw_tbl (aML0.map fun q => aCd q.1) := goodIn_p _ [300, 304, 379, 383, 386, 389, 394, 442, 446, 450, 453, 462, 909, 108, 116, 133, 153, 176, 192, 267, 277, 294, 326, 353, 369, 374, 417, 421, 425, 429, 433, 437, 501, 505, 509, 513, 517, 522, 527, 530] rfl (by decide +kernel)
set_option maxRecDepth 100000 in
theorem aMC1 : GoodIn lw_tbl (aML1.map fun q => aCd q.1) := goodIn_p _ [534, 540, 544, 597, 601, 605, 609, 613, 618, 623, 627, 631, 636, 640, 644, 648, 652, 656, 660, 667, 671, 674, 680, 684, 689, 693, 697, 701, 705, 709, 713, 717, 721, 725, 728, 732, 736, 741, 748, 752] rfl (by decide +kernel)
set_option maxRecDepth 100000 in
theorem aMC2 : GoodIn lw_tbl (aML2.map fun q => aCd q.1) := goodIn_p _ [756, 760, 765, 769, 773, 777, 781, 785, 789, 794, 798, 802, 806, 809, 813, 817, 821, 825, 830, 834, 838, 842, 847, 851, 855, 860, 864, 868, 872, 879, 883, 888, 894, 899, 906, 916, 921, 925, 929, 932] rfl (by decide +kernel)
set_option maxRecDepth 100000 in
theorem aMC3 : GoodIn lw_tbl (aML3.map fun q => aCd q.1) := goodIn_p _ [937, 942, 946, 950, 954, 959, 963, 967, 971, 975, 979, 983, 986, 990, 995, 999, 1003, 1008, 1012, 1016, 1020, 1024, 1027, 1030, 1034, 1037, 1041, 1045, 1049, 1052, 1056, 1060, 1064, 1068, 1072, 1075, 1080, 1084, 1088, 1091] rfl (by decide +kernel)
set_option maxRecDepth 100000 in
theorem aMC4 : GoodIn lw_tbl (aML4.map fun q => aCd q.1) := goodIn_p _ [1094, 1097, 1101, 1105, 1109, 1113, 1118, 1123, 1128, 1139, 1210, 1218, 1225, 1234, 1238, 1242, 1249, 1254, 1383, 1387, 1391, 1394, 1398, 1402, 1406, 1410, 1414, 1418, 1422, 1426, 1430, 1434, 1438, 1442, 1446, 1450, 1454, 1458, 1462, 1466] rfl (by decide +kernel)
set_option maxRecDepth 100000 in
theorem aMC5 : GoodIn lw_tbl (aML5.map fun q => aCd q.1) := goodIn_p _ [1470, 1474, 1478, 1482, 1485, 1489, 1493, 1497, 1501, 1505, 1509, 1513, 1517, 1520, 1524, 1528, 1532, 1535, 1539, 1543, 1549, 1553, 1556, 1560, 1564, 1568, 1571, 1574, 1578, 1582, 1586, 1590, 1594, 1598, 1602, 1605, 1609, 1613, 1617, 1621] rfl (by decide +kernel)
set_option maxRecDepth 100000 in
theorem aMC6 : GoodIn lw_tbl (aML6.map fun q => aCd q.1) := goodIn_p _ [1625, 1629, 1633, 1637, 1641, 1645, 1649, 1653, 1657, 1661, 1665, 1669, 1673, 1678, 1682, 1686, 1690, 1694, 1698, 1702, 1706, 1710, 1714, 1718, 1722, 1726, 1730, 1734, 1738, 1742, 1746, 1750, 1754, 1757, 1762, 1765, 1769, 1774, 1778, 1782] rfl (by decide +kernel)
set_option maxRecDepth 100000 in
theorem aMC7 : GoodIn lw_tbl (aML7.map fun q => aCd q.1) := goodIn_p _ [1786, 1790, 1794, 1799, 1802, 1805, 1808, 1812, 1816, 1820, 1824, 1829, 1833, 1837, 1841, 1845] rfl (by decide +kernel)
end
section
/-! what is checked of each instruction: its decoding, its length, where it leads, the words it needs -/
def aOws : List String := ["BluesAndGreens$City", "BluesAndGreens$Heard", "BluesAndGreens$Past", "BluesAndGreens$Reader", "BluesAndGreens$Row", "BluesAndGreens$Rule", "BluesAndGreens$RuleReader", "BluesAndGreens$Runs", "BluesAndGreens$State", "BluesAndGreens$Text", "BluesAndGreens", "BluesAndGreensModel", "BluesAndGreensLaw", "java/lang/String", "java/lang/StringLatin1", "jdk/internal/util/Preconditions", "java/lang/Math", "java/lang/Integer"]
def aOw (o : Nat) : String := aOws.getD o ""
def aOR0 : List Nat := [13, 13, 13, 13, 14, 13, 15, 13, 13, 14, 14, 14, 17, 10, 9, 3, 6, 4]
def aOR1 : List Nat := [0, 8, 2, 5, 7, 1, 10, 9, 9, 6, 5, 3, 3, 6, 6, 3, 5, 3]
def aOR2 : List Nat := [3, 3, 6, 6, 6, 3, 9, 10, 9, 10, 10, 3, 3, 3, 3, 3, 8, 10]
def aOR3 : List Nat := [2, 10, 10, 10, 5, 10, 10, 10, 10, 8, 7, 8, 5, 5, 8, 8, 8, 8]
def aOR4 : List Nat := [8, 8, 5, 10, 8, 8, 8, 8, 2, 8, 4, 4, 4, 4, 10, 8, 0, 10]
def aOR5 : List Nat := [10, 8, 8, 10, 10, 8, 10, 8, 10, 8, 0, 8, 10, 3, 10, 10, 2, 8]
def aOR6 : List Nat := [10, 10, 4, 10, 10, 10, 10, 10, 10, 8, 0, 0, 0, 10, 8, 10, 10, 8]
def aOR7 : List Nat := [10, 10, 10, 10, 0, 0, 10, 0, 0, 0, 10, 10, 10, 0, 10, 10, 10, 10]
def aOR8 : List Nat := [10, 10, 10, 10, 1, 1, 10, 1, 10, 1, 1, 1, 10, 0, 10, 10, 10, 10]
def aOR9 : List Nat := [10, 10, 10, 7, 10, 10, 10, 10, 10, 10, 10, 10, 8, 0, 10, 11, 11, 11]
def aOR10 : List Nat := [11, 11, 11, 11, 11, 11, 11, 11, 11, 11, 11, 11, 11, 11, 11, 11, 11, 11]
def aOR11 : List Nat := [11, 11, 11, 11, 11, 11, 11, 11, 11, 11, 11, 11, 11, 11, 11, 11, 11, 11]
def aOR12 : List Nat := [11, 11, 11, 11, 11, 11, 11, 11, 11, 11, 11, 11, 11, 11, 11, 11, 11, 11]
def aOR13 : List Nat := [11, 11, 11, 11, 11, 11, 11, 11, 11, 11, 11, 11, 11, 11, 11, 11, 11, 11]
def aOR14 : List Nat := [11, 11, 11, 11, 11, 11, 11, 11, 11, 11, 11, 11, 11, 11, 11, 11, 11, 11]
def aOR15 : List Nat := [11, 11, 11, 11, 11, 11, 11, 11, 11, 11, 11, 11, 11, 11, 11, 11, 11, 11]
def aOR16 : List Nat := [11, 11, 11, 11, 11, 11, 11, 11, 12, 12, 12, 12, 12, 12, 12]
def aOT : List (List Nat) := [aOR0, aOR1, aOR2, aOR3, aOR4, aOR5, aOR6, aOR7, aOR8, aOR9, aOR10, aOR11, aOR12, aOR13, aOR14, aOR15, aOR16]
def aOn (k : Nat) : Nat := (aOT.getD (k / 18) []).getD (k % 18) 99
set_option maxRecDepth 100000 in
theorem aOn_ok : ∀ k, k < 303 → (aNm k).1.cls = aOw (aOn k) := by decide +kernel
def aFL : List (Nat × Nat × Nat × Nat × Nat) := [(0, 9, 0, 1, 198), (0, 15, 0, 2, 202), (0, 18, 0, 3, 206), (0, 21, 0, 5, 212), (0, 24, 0, 6, 216), (0, 27, 0, 7, 220), (0, 30, 0, 8, 224), (0, 33, 0, 10, 231), (0, 36, 0, 11, 235), (0, 40, 0, 0, 194), (0, 43, 0, 9, 228), (0, 50, 0, 4, 211), (1, 11, 1, 0, 355), (1, 15, 1, 1, 356), (1, 18, 1, 2, 357), (1, 26, 0, 4, 209), (1, 39, 0, 6, 217), (1, 42, 0, 5, 213), (1, 45, 0, 7, 221), (1, 48, 0, 8, 225), (2, 13, 2, 0, 279), (2, 17, 2, 1, 280), (2, 21, 2, 2, 282), (3, 9, 3, 0, 135), (3, 15, 3, 1, 136), (3, 19, 3, 2, 137), (3, 22, 3, 3, 139), (3, 25, 9, 1, 121), (3, 30, 9, 0, 119), (3, 60, 0, 1, 201), (3, 66, 0, 2, 204), (3, 72, 0, 3, 208), (3, 78, 0, 5, 215), (3, 84, 0, 6, 219), (3, 87, 0, 7, 223), (3, 90, 0, 8, 227), (3, 96, 0, 10, 233), (4, 9, 4, 0, 178), (4, 15, 4, 1, 180), (5, 9, 5, 0, 307), (5, 23, 5, 2, 309), (5, 26, 5, 3, 310), (5, 29, 5, 1, 308), (5, 39, 0, 0, 197), (5, 54, 0, 1, 199), (6, 9, 6, 0, 155), (6, 15, 6, 1, 156), (6, 30, 6, 2, 157), (6, 34, 6, 3, 158), (6, 37, 6, 4, 159), (6, 51, 3, 2, 138), (7, 9, 7, 0, 328), (7, 15, 7, 1, 330), (7, 18, 7, 2, 332), (7, 21, 7, 3, 334), (7, 44, 7, 4, 336), (8, 11, 8, 0, 269), (8, 21, 0, 0, 196), (8, 27, 0, 3, 207), (8, 38, 0, 9, 230), (8, 57, 0, 11, 237), (8, 80, 0, 2, 205), (8, 95, 0, 10, 234), (9, 9, 9, 0, 118), (9, 15, 9, 1, 120), (10, 12, 10, 0, 545), (10, 21, 10, 1, 546), (10, 30, 10, 2, 547), (10, 37, 10, 3, 548), (10, 44, 10, 4, 549), (10, 51, 10, 5, 550), (10, 55, 10, 6, 551), (10, 58, 10, 7, 552), (10, 64, 10, 8, 553), (10, 68, 10, 9, 554), (10, 72, 10, 10, 555), (10, 79, 10, 11, 556), (10, 83, 10, 12, 557), (10, 89, 10, 13, 558), (10, 96, 10, 14, 559), (10, 100, 10, 15, 560), (10, 115, 0, 0, 195), (10, 130, 0, 4, 210), (10, 133, 0, 9, 229), (10, 146, 0, 1, 200), (10, 149, 0, 2, 203), (10, 165, 0, 5, 214), (10, 168, 0, 6, 218), (10, 171, 0, 7, 222), (10, 174, 0, 8, 226), (10, 183, 0, 10, 232), (10, 208, 0, 11, 236), (10, 233, 7, 0, 329), (10, 236, 7, 1, 331), (10, 286, 7, 2, 333), (10, 289, 7, 3, 335), (10, 391, 7, 4, 337), (10, 417, 1, 2, 358), (10, 420, 2, 1, 281), (10, 421, 4, 1, 181), (10, 422, 9, 1, 122), (10, 425, 4, 0, 179), (11, 9, 11, 0, 1256), (11, 13, 11, 2, 1258), (11, 16, 11, 3, 1259), (11, 19, 11, 5, 1261), (11, 22, 11, 7, 1263), (11, 25, 11, 8, 1264), (11, 29, 11, 9, 1265), (11, 33, 11, 11, 1267), (11, 37, 11, 19, 1275), (11, 40, 11, 20, 1276), (11, 43, 11, 21, 1277), (11, 46, 11, 24, 1280), (11, 49, 11, 25, 1281), (11, 52, 11, 27, 1283), (11, 55, 11, 28, 1284), (11, 58, 11, 32, 1288), (11, 61, 11, 33, 1289), (11, 64, 11, 34, 1290), (11, 67, 11, 38, 1294), (11, 70, 11, 39, 1295), (11, 74, 11, 40, 1296), (11, 77, 11, 13, 1269), (11, 80, 11, 12, 1268), (11, 83, 11, 1, 1257), (11, 90, 11, 4, 1260), (11, 93, 11, 10, 1266), (11, 96, 11, 14, 1270), (11, 99, 11, 15, 1271), (11, 102, 11, 16, 1272), (11, 105, 11, 17, 1273), (11, 108, 11, 18, 1274), (11, 139, 11, 26, 1282), (11, 142, 11, 37, 1293), (11, 164, 11, 6, 1262), (11, 182, 11, 23, 1279), (11, 189, 11, 22, 1278), (11, 243, 11, 29, 1285), (11, 246, 11, 30, 1286), (11, 249, 11, 31, 1287), (11, 354, 11, 35, 1291), (11, 378, 11, 36, 1292)]
def aMLk : List (Nat × Nat × Nat × Nat) := [(0, 46, 119, 930), (0, 61, 131, 980), (0, 65, 12, 991), (0, 70, 134, 992), (1, 22, 149, 1050), (1, 31, 154, 1069), (1, 35, 155, 1073), (2, 24, 81, 757), (2, 34, 107, 865), (3, 34, 37, 519), (3, 38, 30, 518), (3, 42, 33, 523), (3, 45, 36, 514), (3, 49, 29, 614), (3, 52, 48, 615), (3, 56, 41, 632), (3, 69, 35, 619), (3, 75, 49, 620), (3, 81, 50, 624), (3, 93, 51, 628), (4, 19, 84, 770), (4, 22, 85, 774), (4, 26, 83, 766), (4, 29, 82, 884), (5, 17, 0, 297), (5, 44, 67, 698), (5, 48, 68, 702), (5, 57, 69, 706), (5, 60, 70, 710), (5, 63, 71, 714), (5, 66, 72, 718), (5, 69, 73, 722), (5, 72, 74, 726), (6, 19, 28, 422), (6, 24, 29, 426), (6, 40, 30, 430), (6, 44, 31, 434), (6, 48, 38, 524), (6, 54, 37, 536), (6, 57, 40, 531), (6, 61, 41, 537), (6, 67, 7, 439), (6, 72, 32, 498), (6, 75, 33, 502), (6, 78, 34, 506), (6, 81, 35, 510), (6, 84, 39, 528), (7, 24, 65, 690), (7, 30, 68, 743), (7, 40, 78, 745), (8, 34, 68, 729), (8, 41, 101, 839), (8, 53, 79, 749), (8, 60, 66, 694), (8, 70, 76, 733), (8, 74, 77, 738), (8, 77, 88, 786), (8, 83, 72, 790), (8, 86, 92, 803), (8, 89, 73, 826), (8, 92, 100, 835), (8, 98, 78, 843), (9, 19, 26, 414), (9, 23, 0, 375), (9, 28, 2, 376), (10, 11, 14, 114), (10, 18, 15, 131), (10, 27, 16, 151), (10, 36, 17, 174), (10, 43, 18, 190), (10, 50, 19, 265), (10, 63, 20, 275), (10, 78, 21, 292), (10, 95, 23, 351), (10, 103, 24, 366), (10, 107, 44, 598), (10, 111, 42, 541), (10, 119, 47, 610), (10, 123, 52, 633), (10, 127, 53, 637), (10, 136, 58, 657), (10, 140, 88, 1140), (10, 152, 68, 900), (10, 155, 92, 1202), (10, 158, 70, 1203), (10, 161, 67, 1211), (10, 177, 100, 1226), (10, 180, 101, 1227), (10, 186, 75, 895), (10, 189, 72, 938), (10, 192, 73, 889), (10, 195, 174, 1235), (10, 198, 117, 922), (10, 202, 175, 1239), (10, 205, 135, 996), (10, 211, 61, 672), (10, 223, 63, 681), (10, 226, 64, 686), (10, 230, 80, 753), (10, 239, 82, 762), (10, 243, 87, 782), (10, 247, 89, 791), (10, 250, 91, 799), (10, 253, 95, 814), (10, 256, 97, 822), (10, 259, 99, 831), (10, 262, 103, 848), (10, 266, 104, 852), (10, 269, 78, 856), (10, 273, 106, 861), (10, 277, 84, 873), (10, 280, 66, 874), (10, 283, 85, 875), (10, 292, 110, 880), (10, 296, 65, 890), (10, 300, 113, 896), (10, 306, 83, 902), (10, 309, 12, 907), (10, 314, 115, 913), (10, 318, 93, 917), (10, 321, 118, 926), (10, 324, 120, 934), (10, 327, 122, 943), (10, 331, 123, 947), (10, 334, 79, 955), (10, 338, 125, 956), (10, 341, 128, 968), (10, 344, 130, 976), (10, 347, 133, 987), (10, 350, 131, 1004), (10, 353, 139, 1013), (10, 356, 142, 1025), (10, 360, 143, 1028), (10, 363, 144, 1031), (10, 366, 145, 1035), (10, 370, 148, 1046), (10, 372, 151, 1057), (10, 374, 153, 1065), (10, 377, 157, 1081), (10, 380, 159, 1089), (10, 384, 160, 1092), (10, 388, 161, 1095), (10, 394, 164, 1106), (10, 397, 165, 1110), (10, 400, 81, 1119), (10, 404, 107, 1124), (10, 407, 54, 641), (10, 408, 71, 1129), (10, 411, 69, 1130), (10, 414, 132, 1131), (10, 431, 25, 371), (10, 435, 27, 418), (11, 86, 181, 1392), (11, 111, 184, 1403), (11, 115, 185, 1407), (11, 119, 188, 1419), (11, 123, 191, 1431), (11, 127, 186, 1411), (11, 131, 187, 1415), (11, 135, 192, 1435), (11, 145, 183, 1399), (11, 148, 189, 1423), (11, 152, 190, 1427), (11, 155, 193, 1439), (11, 158, 194, 1443), (11, 161, 196, 1451), (11, 167, 201, 1471), (11, 170, 202, 1475), (11, 173, 203, 1479), (11, 176, 200, 1467), (11, 179, 204, 1483), (11, 186, 199, 1463), (11, 192, 206, 1490), (11, 196, 207, 1494), (11, 199, 209, 1502), (11, 203, 217, 1533), (11, 207, 213, 1518), (11, 210, 214, 1521), (11, 213, 215, 1525), (11, 216, 216, 1529), (11, 228, 222, 1554), (11, 232, 225, 1565), (11, 236, 226, 1569), (11, 240, 227, 1572), (11, 252, 224, 1561), (11, 255, 228, 1575), (11, 259, 221, 1550), (11, 263, 223, 1557), (11, 267, 229, 1579), (11, 271, 231, 1587), (11, 275, 232, 1591), (11, 278, 234, 1599), (11, 281, 235, 1603), (11, 284, 237, 1610), (11, 287, 238, 1614), (11, 290, 241, 1626), (11, 293, 242, 1630), (11, 296, 244, 1638), (11, 299, 245, 1642), (11, 302, 251, 1666), (11, 306, 12, 1674), (11, 311, 253, 1675), (11, 314, 255, 1683), (11, 317, 257, 1691), (11, 320, 258, 1695), (11, 323, 262, 1711), (11, 326, 264, 1719), (11, 329, 265, 1723), (11, 332, 267, 1731), (11, 335, 270, 1743), (11, 338, 275, 1763), (11, 342, 273, 1755), (11, 348, 274, 1759), (11, 357, 281, 1787), (11, 360, 280, 1783), (11, 364, 285, 1803), (11, 368, 286, 1806), (11, 371, 284, 1800), (11, 375, 288, 1813), (11, 382, 290, 1821), (11, 385, 294, 1838), (12, 7, 169, 1136), (12, 15, 170, 1207), (12, 19, 171, 1215), (12, 22, 172, 1222), (12, 25, 173, 1231), (12, 28, 176, 1246), (12, 32, 13, 106), (12, 35, 177, 1252), (12, 36, 43, 594), (12, 39, 179, 1384), (12, 40, 45, 602), (12, 44, 180, 1388), (12, 45, 46, 606), (12, 49, 182, 1395), (12, 50, 55, 645), (12, 53, 195, 1447), (12, 54, 56, 649), (12, 57, 197, 1455), (12, 58, 57, 653), (12, 61, 198, 1459), (12, 62, 297, 1132), (12, 67, 205, 1486), (12, 68, 178, 1380), (12, 71, 298, 1204), (12, 74, 208, 1498), (12, 75, 299, 1212), (12, 77, 210, 1506), (12, 78, 300, 1219), (12, 80, 211, 1510), (12, 81, 301, 1228), (12, 83, 212, 1514), (12, 84, 59, 664), (12, 87, 218, 1536), (12, 88, 60, 668), (12, 92, 219, 1540), (12, 93, 62, 677), (12, 96, 220, 1546), (12, 97, 86, 778), (12, 100, 230, 1583), (12, 101, 90, 795), (12, 104, 233, 1595), (12, 105, 94, 810), (12, 108, 236, 1606), (12, 109, 96, 818), (12, 112, 239, 1618), (12, 113, 98, 827), (12, 116, 240, 1622), (12, 117, 102, 844), (12, 120, 243, 1634), (12, 121, 105, 857), (12, 124, 246, 1646), (12, 125, 108, 869), (12, 128, 247, 1650), (12, 129, 109, 876), (12, 132, 248, 1654), (12, 133, 111, 885), (12, 136, 249, 1658), (12, 137, 112, 891), (12, 140, 250, 1662), (12, 141, 114, 903), (12, 144, 252, 1670), (12, 145, 116, 918), (12, 148, 254, 1679), (12, 149, 121, 939), (12, 152, 256, 1687), (12, 153, 124, 951), (12, 156, 259, 1699), (12, 157, 126, 960), (12, 160, 260, 1703), (12, 161, 127, 964), (12, 164, 261, 1707), (12, 165, 129, 972), (12, 168, 263, 1715), (12, 169, 136, 1000), (12, 172, 266, 1727), (12, 173, 137, 1005), (12, 176, 268, 1735), (12, 177, 138, 1009), (12, 180, 269, 1739), (12, 181, 140, 1017), (12, 184, 271, 1747), (12, 185, 141, 1021), (12, 189, 272, 1751), (12, 190, 146, 1038), (12, 193, 276, 1766), (12, 194, 147, 1042), (12, 197, 277, 1771), (12, 198, 150, 1053), (12, 201, 278, 1775), (12, 202, 152, 1061), (12, 205, 279, 1779), (12, 206, 156, 1077), (12, 209, 282, 1791), (12, 210, 158, 1085), (12, 213, 283, 1796), (12, 214, 162, 1098), (12, 217, 287, 1809), (12, 218, 163, 1102), (12, 221, 289, 1817), (12, 222, 166, 1115), (12, 225, 291, 1826), (12, 226, 167, 1120), (12, 229, 292, 1830), (12, 230, 168, 1125), (12, 233, 293, 1834), (12, 234, 302, 1243), (12, 236, 295, 1842), (13, 335, 1, 301), (13, 492, 3, 380), (13, 495, 4, 384), (13, 505, 0, 447), (13, 633, 8, 443), (13, 637, 9, 448), (13, 1059, 6, 392), (14, 9, 5, 387), (14, 88, 10, 451), (14, 95, 11, 460)]
def aNLk : List (Nat × Nat × Nat × Nat) := [(0, 53, 93, 933), (0, 57, 132, 984), (1, 51, 93, 1076), (8, 30, 93, 807), (8, 66, 75, 730), (10, 88, 22, 324)]
def aCLk : List (Nat × Nat × Nat × Nat × Nat) := [(10, 9, 9, 2, 112), (10, 16, 3, 4, 129), (10, 25, 6, 5, 149), (10, 34, 4, 2, 172), (10, 41, 0, 12, 188), (10, 48, 8, 1, 263), (10, 61, 2, 3, 273), (10, 76, 5, 4, 290), (10, 86, 7, 5, 322), (10, 93, 1, 3, 349), (12, 8, 10, 16, 104), (12, 33, 11, 41, 1250)]
def aKI : List (Nat × Nat × Int × Nat) := [(7, 47, 1103515245, 1114), (11, 363, 1000000, 1795), (11, 381, 1103515245, 1825), (17, 265, 1431655765, 910), (17, 266, 858993459, 911), (17, 267, 252645135, 912)]
def aKL : List (Nat × Nat × Int × Nat) := [(10, 304, (-1), 901), (11, 346, 10, 1758), (11, 352, 5, 1770)]
def aSF : List (Nat × Nat × Nat × Nat) := [(13, 9, 0, 1862), (13, 15, 1, 1863)]
def aGS : List (Nat × Nat × Nat × Nat) := [(13, 38, 31, 305), (13, 1053, 32, 390)]
def aOI : List (Nat × Nat × Nat) := [(0, 3, 193), (1, 3, 354), (2, 3, 278), (3, 3, 134), (4, 3, 177), (5, 3, 295), (6, 3, 154), (7, 3, 327), (8, 5, 268), (9, 3, 117), (10, 3, 109), (11, 3, 1255)]
def aAC : List (Nat × Nat × Nat) := [(5, 33, 661), (8, 15, 685)]
def aMX : List (Nat × Nat × Nat × Nat) := [(2, 28, 18, 761), (6, 87, 17, 535), (7, 34, 17, 744), (8, 44, 18, 737), (8, 50, 17, 742), (10, 215, 18, 675), (10, 220, 17, 676), (11, 219, 18, 1544), (11, 225, 17, 1545), (14, 38, 18, 457), (14, 92, 17, 454)]
def aKS : List (Nat × Nat × Nat) := [(5, 15, 2), (6, 65, 2), (10, 429, 1)]
def aCW : List (Nat × Nat × Nat) := [(0, 189, 85), (1, 350, 91), (2, 274, 87), (3, 130, 82), (4, 173, 84), (5, 291, 88), (6, 150, 83), (7, 323, 90), (8, 264, 86), (9, 113, 81), (10, 105, 80), (11, 1251, 97)]
def aFd (c j : Nat) : String × String × String × Bool := match vwCl[c]? with
  | some q => q.2.1 j
  | none => ("", "", "", false)
def aTc (ty : FieldType) : Nat := match ty with
  | .int => 0
  | .boolean => 1
  | .object _ => 4
  | .array _ => 4
  | _ => 9
def aFLk (q : Nat × Nat × Nat × Nat × Nat) : Bool := match q with
  | (o, ix, c, j, p) => aWd p (.fieldLink (aOw o) ix (aFd c j).1 (aFd c j).2.1 (aFd c j).2.2.1)
def aMLkk (q : Nat × Nat × Nat × Nat) : Bool := match q with
  | (o, ix, k, p) => aWd p (.methodLink (aOw o) ix (aNm k).1)
def aCLkk (q : Nat × Nat × Nat × Nat × Nat) : Bool := match q with
  | (o, ix, c, n, p) => match vwCl[c]? with
    | some (C, _, N) => aWd p (.classLink (aOw o) ix C) && decide (N = n)
    | none => false
def aCWk (q : Nat × Nat × Nat) : Bool := match q with
  | (c, p1, p2) => match vwCl[c]? with
    | some (C, _, N) => aWd p1 (.instantiable C N) && aWd p2 (.initialized C)
    | none => false
def aKIk (q : Nat × Nat × Int × Nat) : Bool := match q with
  | (o, ix, z, p) => aWd p (.constant (aOw o) ix (Int32.ofInt z))
def aKLk (q : Nat × Nat × Int × Nat) : Bool := match q with
  | (o, ix, z, p) => aWd p (.constantLong (aOw o) ix (Int64.ofInt z))
set_option maxRecDepth 100000 in
theorem aFL_ok : ∀ q ∈ aFL, aFLk q = true := by decide +kernel
set_option maxRecDepth 100000 in
theorem aMLk_ok : ∀ q ∈ aMLk, aMLkk q = true := by decide +kernel
set_option maxRecDepth 100000 in
theorem aCLk_ok : ∀ q ∈ aCLk, aCLkk q = true := by decide +kernel
set_option maxRecDepth 100000 in
theorem aCW_ok : ∀ q ∈ aCW, aCWk q = true := by decide +kernel
set_option maxRecDepth 100000 in
theorem aKI_ok : ∀ q ∈ aKI, aKIk q = true := by decide +kernel
set_option maxRecDepth 100000 in
theorem aKL_ok : ∀ q ∈ aKL, aKLk q = true := by decide +kernel
/-- a link of the field's, in a list by owner and index -/
def aInF (o ix c j : Nat) : Bool := aFL.any (fun q => Nat.beq q.1 o && Nat.beq q.2.1 ix && Nat.beq q.2.2.1 c && Nat.beq q.2.2.2.1 j)
def aInM (l : List (Nat × Nat × Nat × Nat)) (o ix k : Nat) : Bool := l.any (fun q => Nat.beq q.1 o && Nat.beq q.2.1 ix && Nat.beq q.2.2.1 k)
def aInC (o ix c n : Nat) : Bool := aCLk.any (fun q => Nat.beq q.1 o && Nat.beq q.2.1 ix && Nat.beq q.2.2.1 c && Nat.beq q.2.2.2.1 n)
def aInK (l : List (Nat × Nat × Int × Nat)) (o ix : Nat) (z : Int) : Bool := l.any (fun q => Nat.beq q.1 o && Nat.beq q.2.1 ix && decide (q.2.2.1 = z))
def aIn2 (l : List (Nat × Nat × Nat)) (o ix : Nat) : Bool := l.any (fun q => Nat.beq q.1 o && Nat.beq q.2.1 ix)
def aIn3 (l : List (Nat × Nat × Nat)) (o ix a : Nat) : Bool := l.any (fun q => Nat.beq q.1 o && Nat.beq q.2.1 ix && Nat.beq q.2.2 a)
def aKc (kd : Nat) (cls : String) : Bool := if kd = 21 then decide (cls = "java/lang/String") else (match vwCl[kd]? with
  | some q => decide (q.1 = cls)
  | none => false)
def aJp (pc : Nat) (off : Int) : Bool := decide (0 ≤ (pc : Int) + off)
def aIl (k pc : Nat) (i : Instr) (len t a b : Nat) (z : Int) : Bool := match i with
  | .iconst _ => Nat.beq len 1
  | .lconst _ => Nat.beq len 1
  | .bipush _ => Nat.beq len 2
  | .sipush _ => Nat.beq len 3
  | .ldc ix => Nat.beq len 2 && (match t with
    | 14 => aInK aKI (aOn k) ix z
    | 15 => aIn3 aKS (aOn k) ix a
    | _ => true)
  | .ldc_w ix => Nat.beq len 3 && (match t with
    | 14 => aInK aKI (aOn k) ix z
    | 15 => aIn3 aKS (aOn k) ix a
    | _ => true)
  | .ldc2_w ix => Nat.beq len 3 && (match t with
    | 16 => aInK aKL (aOn k) ix z
    | _ => true)
  | .iload_n _ => Nat.beq len 1
  | .lload_n _ => Nat.beq len 1
  | .aload_n _ => Nat.beq len 1
  | .istore_n _ => Nat.beq len 1
  | .lstore_n _ => Nat.beq len 1
  | .astore_n _ => Nat.beq len 1
  | .iload _ => Nat.beq len 2
  | .lload _ => Nat.beq len 2
  | .aload _ => Nat.beq len 2
  | .istore _ => Nat.beq len 2
  | .lstore _ => Nat.beq len 2
  | .astore _ => Nat.beq len 2
  | .iinc _ _ => Nat.beq len 3
  | .ifCond _ off => Nat.beq len 3 && aJp pc off
  | .if_icmp _ off => Nat.beq len 3 && aJp pc off
  | .goto off => Nat.beq len 3 && aJp pc off
  | .tableswitch df _ _ offs => aJp pc df && offs.toList.all (aJp pc)
  | .lookupswitch df ps => aJp pc df && ps.toList.all (fun q => aJp pc q.2) && (ps.toList.zip (ps.toList.drop 1)).all (fun (a, next) => a.1 < next.1)
  | .getfield ix => Nat.beq len 3 && (match t with
    | 20 => aInF (aOn k) ix a (b / 8) && (match vwCl[a]? with
      | some q => decide (b / 8 < q.2.2)
      | none => false) && Nat.beq (b % 8) (aTc ((aTyF.getD a tyX0) (b / 8)))
    | 30 => aInM aSF (aOn k) ix a
    | _ => true)
  | .putfield ix => Nat.beq len 3 && (match t with
    | 20 => aInF (aOn k) ix a (b / 8) && (match vwCl[a]? with
      | some q => decide (b / 8 < q.2.2)
      | none => false) && Nat.beq (b % 8) (aTc ((aTyF.getD a tyX0) (b / 8))) && (!(aFd a (b / 8)).2.2.2 || (decide ((aNm k).1.name = "<init>") && Nat.beq (aOn k) a))
    | _ => true)
  | .getstatic ix => Nat.beq len 3 && (match t with
    | 31 => aInM aGS (aOn k) ix 31
    | 32 => aInM aGS (aOn k) ix 32
    | _ => true)
  | .newarray _ => Nat.beq len 2
  | .new ix => Nat.beq len 3 && (match t with
    | 12 => aInC (aOn k) ix a b
    | _ => true)
  | .invokestatic ix => Nat.beq len 3 && (match t with
    | 1 => aInM aMLk (aOn k) ix a
    | 4 => aInM aNLk (aOn k) ix a
    | 11 => aIn2 aAC (aOn k) ix
    | 17 => aInM aMX (aOn k) ix 17
    | 18 => aInM aMX (aOn k) ix 18
    | _ => true)
  | .invokevirtual ix => Nat.beq len 3 && (match t with
    | 2 => aInM aMLk (aOn k) ix a && aKc b (aNm a).1.cls
    | 6 => aInM aMLk (aOn k) ix a && aKc z.toNat (aNm a).1.cls
    | _ => true)
  | .invokespecial ix => Nat.beq len 3 && (match t with
    | 3 => aInM aMLk (aOn k) ix a && aKc b (aNm a).1.cls
    | 5 => aInM aNLk (aOn k) ix a && aKc b (aNm a).1.cls
    | 10 => aIn2 aOI (aOn k) ix
    | _ => true)
  | _ => Nat.beq len 1
def aIc (k : Nat) (e : aN) : Bool := decide (decode (aNm k).2.1 e.1 = .ok (e.2.1, e.2.2.1)) && aIl k e.1 e.2.1 e.2.2.1 e.2.2.2.1 e.2.2.2.2.1 e.2.2.2.2.2.1 e.2.2.2.2.2.2
end
section
set_option maxRecDepth 100000 in
theorem aI0 : aC0.all (aIc 0) = true := by decide +kernel
set_option maxRecDepth 100000 in
theorem aI1 : aC1.all (aIc 1) = true := by decide +kernel
set_option maxRecDepth 100000 in
theorem aI2 : aC2.all (aIc 2) = true := by decide +kernel
set_option maxRecDepth 100000 in
theorem aI3 : aC3.all (aIc 3) = true := by decide +kernel
set_option maxRecDepth 100000 in
theorem aI4 : aC4.all (aIc 4) = true := by decide +kernel
set_option maxRecDepth 100000 in
theorem aI5 : aC5.all (aIc 5) = true := by decide +kernel
set_option maxRecDepth 100000 in
theorem aI6 : aC6.all (aIc 6) = true := by decide +kernel
set_option maxRecDepth 100000 in
theorem aI7 : aC7.all (aIc 7) = true := by decide +kernel
set_option maxRecDepth 100000 in
theorem aI8 : aC8.all (aIc 8) = true := by decide +kernel
set_option maxRecDepth 100000 in
theorem aI9 : aC9.all (aIc 9) = true := by decide +kernel
set_option maxRecDepth 100000 in
theorem aI10 : aC10.all (aIc 10) = true := by decide +kernel
set_option maxRecDepth 100000 in
theorem aI11 : aC11.all (aIc 11) = true := by decide +kernel
set_option maxRecDepth 100000 in
theorem aI12 : aC12.all (aIc 12) = true := by decide +kernel
set_option maxRecDepth 100000 in
theorem aI13 : aC13.all (aIc 13) = true := by decide +kernel
set_option maxRecDepth 100000 in
theorem aI14 : aC14.all (aIc 14) = true := by decide +kernel
set_option maxRecDepth 100000 in
theorem aI15 : aC15.all (aIc 15) = true := by decide +kernel
set_option maxRecDepth 100000 in
theorem aI16 : aC16.all (aIc 16) = true := by decide +kernel
set_option maxRecDepth 100000 in
theorem aI17 : aC17.all (aIc 17) = true := by decide +kernel
set_option maxRecDepth 100000 in
theorem aI18 : aC18.all (aIc 18) = true := by decide +kernel
set_option maxRecDepth 100000 in
theorem aI19 : aC19.all (aIc 19) = true := by decide +kernel
set_option maxRecDepth 100000 in
theorem aI20 : aC20.all (aIc 20) = true := by decide +kernel
set_option maxRecDepth 100000 in
theorem aI21 : aC21.all (aIc 21) = true := by decide +kernel
set_option maxRecDepth 100000 in
theorem aI22 : aC22.all (aIc 22) = true := by decide +kernel
set_option maxRecDepth 100000 in
theorem aI23 : aC23.all (aIc 23) = true := by decide +kernel
set_option maxRecDepth 100000 in
theorem aI24 : aC24.all (aIc 24) = true := by decide +kernel
set_option maxRecDepth 100000 in
theorem aI25 : aC25.all (aIc 25) = true := by decide +kernel
set_option maxRecDepth 100000 in
theorem aI26 : aC26.all (aIc 26) = true := by decide +kernel
set_option maxRecDepth 100000 in
theorem aI27 : aC27.all (aIc 27) = true := by decide +kernel
set_option maxRecDepth 100000 in
theorem aI28 : aC28.all (aIc 28) = true := by decide +kernel
set_option maxRecDepth 100000 in
theorem aI29 : aC29.all (aIc 29) = true := by decide +kernel
set_option maxRecDepth 100000 in
theorem aI30 : aC30.all (aIc 30) = true := by decide +kernel
set_option maxRecDepth 100000 in
theorem aI31 : aC31.all (aIc 31) = true := by decide +kernel
set_option maxRecDepth 100000 in
theorem aI32 : aC32.all (aIc 32) = true := by decide +kernel
set_option maxRecDepth 100000 in
theorem aI33 : aC33.all (aIc 33) = true := by decide +kernel
set_option maxRecDepth 100000 in
theorem aI34 : aC34.all (aIc 34) = true := by decide +kernel
set_option maxRecDepth 100000 in
theorem aI35 : aC35.all (aIc 35) = true := by decide +kernel
set_option maxRecDepth 100000 in
theorem aI36 : aC36.all (aIc 36) = true := by decide +kernel
set_option maxRecDepth 100000 in
theorem aI37 : aC37.all (aIc 37) = true := by decide +kernel
set_option maxRecDepth 100000 in
theorem aI38 : aC38.all (aIc 38) = true := by decide +kernel
set_option maxRecDepth 100000 in
theorem aI39 : aC39.all (aIc 39) = true := by decide +kernel
set_option maxRecDepth 100000 in
theorem aI40 : aC40.all (aIc 40) = true := by decide +kernel
set_option maxRecDepth 100000 in
theorem aI41 : aC41.all (aIc 41) = true := by decide +kernel
set_option maxRecDepth 100000 in
theorem aI42 : aC42.all (aIc 42) = true := by decide +kernel
set_option maxRecDepth 100000 in
theorem aI43 : aC43.all (aIc 43) = true := by decide +kernel
set_option maxRecDepth 100000 in
theorem aI44 : aC44.all (aIc 44) = true := by decide +kernel
set_option maxRecDepth 100000 in
theorem aI45 : aC45.all (aIc 45) = true := by decide +kernel
set_option maxRecDepth 100000 in
theorem aI46 : aC46.all (aIc 46) = true := by decide +kernel
set_option maxRecDepth 100000 in
theorem aI47 : aC47.all (aIc 47) = true := by decide +kernel
set_option maxRecDepth 100000 in
theorem aI48 : aC48.all (aIc 48) = true := by decide +kernel
set_option maxRecDepth 100000 in
theorem aI49 : aC49.all (aIc 49) = true := by decide +kernel
set_option maxRecDepth 100000 in
theorem aI50 : aC50.all (aIc 50) = true := by decide +kernel
set_option maxRecDepth 100000 in
theorem aI51 : aC51.all (aIc 51) = true := by decide +kernel
set_option maxRecDepth 100000 in
theorem aI52 : aC52.all (aIc 52) = true := by decide +kernel
end
section
set_option maxRecDepth 100000 in
theorem aI53 : aC53.all (aIc 53) = true := by decide +kernel
set_option maxRecDepth 100000 in
theorem aI54 : aC54.all (aIc 54) = true := by decide +kernel
set_option maxRecDepth 100000 in
theorem aI55 : aC55.all (aIc 55) = true := by decide +kernel
set_option maxRecDepth 100000 in
theorem aI56 : aC56.all (aIc 56) = true := by decide +kernel
set_option maxRecDepth 100000 in
theorem aI57 : aC57.all (aIc 57) = true := by decide +kernel
set_option maxRecDepth 100000 in
theorem aI58 : aC58.all (aIc 58) = true := by decide +kernel
set_option maxRecDepth 100000 in
theorem aI59 : aC59.all (aIc 59) = true := by decide +kernel
set_option maxRecDepth 100000 in
theorem aI60 : aC60.all (aIc 60) = true := by decide +kernel
set_option maxRecDepth 100000 in
theorem aI61 : aC61.all (aIc 61) = true := by decide +kernel
set_option maxRecDepth 100000 in
theorem aI62 : aC62.all (aIc 62) = true := by decide +kernel
set_option maxRecDepth 100000 in
theorem aI63 : aC63.all (aIc 63) = true := by decide +kernel
set_option maxRecDepth 100000 in
theorem aI64 : aC64.all (aIc 64) = true := by decide +kernel
set_option maxRecDepth 100000 in
theorem aI65 : aC65.all (aIc 65) = true := by decide +kernel
set_option maxRecDepth 100000 in
theorem aI66 : aC66.all (aIc 66) = true := by decide +kernel
set_option maxRecDepth 100000 in
theorem aI67_0 : aC67_0.all (aIc 67) = true := by decide +kernel
set_option maxRecDepth 100000 in
theorem aI67_1 : aC67_1.all (aIc 67) = true := by decide +kernel
theorem aI67 : aC67.all (aIc 67) = true := by
  unfold aC67
  simp only [List.all_append, Bool.and_eq_true]
  exact ⟨aI67_0, aI67_1⟩
set_option maxRecDepth 100000 in
theorem aI68 : aC68.all (aIc 68) = true := by decide +kernel
set_option maxRecDepth 100000 in
theorem aI69 : aC69.all (aIc 69) = true := by decide +kernel
set_option maxRecDepth 100000 in
theorem aI70 : aC70.all (aIc 70) = true := by decide +kernel
set_option maxRecDepth 100000 in
theorem aI71 : aC71.all (aIc 71) = true := by decide +kernel
set_option maxRecDepth 100000 in
theorem aI72 : aC72.all (aIc 72) = true := by decide +kernel
set_option maxRecDepth 100000 in
theorem aI73 : aC73.all (aIc 73) = true := by decide +kernel
set_option maxRecDepth 100000 in
theorem aI74 : aC74.all (aIc 74) = true := by decide +kernel
set_option maxRecDepth 100000 in
theorem aI75 : aC75.all (aIc 75) = true := by decide +kernel
set_option maxRecDepth 100000 in
theorem aI76 : aC76.all (aIc 76) = true := by decide +kernel
set_option maxRecDepth 100000 in
theorem aI77 : aC77.all (aIc 77) = true := by decide +kernel
set_option maxRecDepth 100000 in
theorem aI78 : aC78.all (aIc 78) = true := by decide +kernel
set_option maxRecDepth 100000 in
theorem aI79 : aC79.all (aIc 79) = true := by decide +kernel
set_option maxRecDepth 100000 in
theorem aI80 : aC80.all (aIc 80) = true := by decide +kernel
set_option maxRecDepth 100000 in
theorem aI81 : aC81.all (aIc 81) = true := by decide +kernel
set_option maxRecDepth 100000 in
theorem aI82 : aC82.all (aIc 82) = true := by decide +kernel
set_option maxRecDepth 100000 in
theorem aI83 : aC83.all (aIc 83) = true := by decide +kernel
set_option maxRecDepth 100000 in
theorem aI84 : aC84.all (aIc 84) = true := by decide +kernel
set_option maxRecDepth 100000 in
theorem aI85 : aC85.all (aIc 85) = true := by decide +kernel
set_option maxRecDepth 100000 in
theorem aI86 : aC86.all (aIc 86) = true := by decide +kernel
set_option maxRecDepth 100000 in
theorem aI87 : aC87.all (aIc 87) = true := by decide +kernel
set_option maxRecDepth 100000 in
theorem aI88 : aC88.all (aIc 88) = true := by decide +kernel
set_option maxRecDepth 100000 in
theorem aI89 : aC89.all (aIc 89) = true := by decide +kernel
set_option maxRecDepth 100000 in
theorem aI90 : aC90.all (aIc 90) = true := by decide +kernel
set_option maxRecDepth 100000 in
theorem aI91 : aC91.all (aIc 91) = true := by decide +kernel
set_option maxRecDepth 100000 in
theorem aI92 : aC92.all (aIc 92) = true := by decide +kernel
set_option maxRecDepth 100000 in
theorem aI93 : aC93.all (aIc 93) = true := by decide +kernel
set_option maxRecDepth 100000 in
theorem aI94 : aC94.all (aIc 94) = true := by decide +kernel
set_option maxRecDepth 100000 in
theorem aI95 : aC95.all (aIc 95) = true := by decide +kernel
set_option maxRecDepth 100000 in
theorem aI96 : aC96.all (aIc 96) = true := by decide +kernel
set_option maxRecDepth 100000 in
theorem aI97 : aC97.all (aIc 97) = true := by decide +kernel
set_option maxRecDepth 100000 in
theorem aI98 : aC98.all (aIc 98) = true := by decide +kernel
set_option maxRecDepth 100000 in
theorem aI99 : aC99.all (aIc 99) = true := by decide +kernel
end
section
set_option maxRecDepth 100000 in
theorem aI100 : aC100.all (aIc 100) = true := by decide +kernel
set_option maxRecDepth 100000 in
theorem aI101 : aC101.all (aIc 101) = true := by decide +kernel
set_option maxRecDepth 100000 in
theorem aI102 : aC102.all (aIc 102) = true := by decide +kernel
set_option maxRecDepth 100000 in
theorem aI103 : aC103.all (aIc 103) = true := by decide +kernel
set_option maxRecDepth 100000 in
theorem aI104 : aC104.all (aIc 104) = true := by decide +kernel
set_option maxRecDepth 100000 in
theorem aI105 : aC105.all (aIc 105) = true := by decide +kernel
set_option maxRecDepth 100000 in
theorem aI106 : aC106.all (aIc 106) = true := by decide +kernel
set_option maxRecDepth 100000 in
theorem aI107 : aC107.all (aIc 107) = true := by decide +kernel
set_option maxRecDepth 100000 in
theorem aI108 : aC108.all (aIc 108) = true := by decide +kernel
set_option maxRecDepth 100000 in
theorem aI109 : aC109.all (aIc 109) = true := by decide +kernel
set_option maxRecDepth 100000 in
theorem aI110 : aC110.all (aIc 110) = true := by decide +kernel
set_option maxRecDepth 100000 in
theorem aI111 : aC111.all (aIc 111) = true := by decide +kernel
set_option maxRecDepth 100000 in
theorem aI112 : aC112.all (aIc 112) = true := by decide +kernel
set_option maxRecDepth 100000 in
theorem aI113 : aC113.all (aIc 113) = true := by decide +kernel
set_option maxRecDepth 100000 in
theorem aI114 : aC114.all (aIc 114) = true := by decide +kernel
set_option maxRecDepth 100000 in
theorem aI115 : aC115.all (aIc 115) = true := by decide +kernel
set_option maxRecDepth 100000 in
theorem aI116 : aC116.all (aIc 116) = true := by decide +kernel
set_option maxRecDepth 100000 in
theorem aI117 : aC117.all (aIc 117) = true := by decide +kernel
set_option maxRecDepth 100000 in
theorem aI118 : aC118.all (aIc 118) = true := by decide +kernel
set_option maxRecDepth 100000 in
theorem aI119 : aC119.all (aIc 119) = true := by decide +kernel
set_option maxRecDepth 100000 in
theorem aI120 : aC120.all (aIc 120) = true := by decide +kernel
set_option maxRecDepth 100000 in
theorem aI121 : aC121.all (aIc 121) = true := by decide +kernel
set_option maxRecDepth 100000 in
theorem aI122 : aC122.all (aIc 122) = true := by decide +kernel
set_option maxRecDepth 100000 in
theorem aI123 : aC123.all (aIc 123) = true := by decide +kernel
set_option maxRecDepth 100000 in
theorem aI124 : aC124.all (aIc 124) = true := by decide +kernel
set_option maxRecDepth 100000 in
theorem aI125 : aC125.all (aIc 125) = true := by decide +kernel
set_option maxRecDepth 100000 in
theorem aI126 : aC126.all (aIc 126) = true := by decide +kernel
set_option maxRecDepth 100000 in
theorem aI127 : aC127.all (aIc 127) = true := by decide +kernel
set_option maxRecDepth 100000 in
theorem aI128 : aC128.all (aIc 128) = true := by decide +kernel
set_option maxRecDepth 100000 in
theorem aI129 : aC129.all (aIc 129) = true := by decide +kernel
set_option maxRecDepth 100000 in
theorem aI130 : aC130.all (aIc 130) = true := by decide +kernel
set_option maxRecDepth 100000 in
theorem aI131 : aC131.all (aIc 131) = true := by decide +kernel
set_option maxRecDepth 100000 in
theorem aI132 : aC132.all (aIc 132) = true := by decide +kernel
set_option maxRecDepth 100000 in
theorem aI133 : aC133.all (aIc 133) = true := by decide +kernel
set_option maxRecDepth 100000 in
theorem aI134 : aC134.all (aIc 134) = true := by decide +kernel
set_option maxRecDepth 100000 in
theorem aI135 : aC135.all (aIc 135) = true := by decide +kernel
end
section
set_option maxRecDepth 100000 in
theorem aI136 : aC136.all (aIc 136) = true := by decide +kernel
set_option maxRecDepth 100000 in
theorem aI137 : aC137.all (aIc 137) = true := by decide +kernel
set_option maxRecDepth 100000 in
theorem aI138 : aC138.all (aIc 138) = true := by decide +kernel
set_option maxRecDepth 100000 in
theorem aI139 : aC139.all (aIc 139) = true := by decide +kernel
set_option maxRecDepth 100000 in
theorem aI140 : aC140.all (aIc 140) = true := by decide +kernel
set_option maxRecDepth 100000 in
theorem aI141 : aC141.all (aIc 141) = true := by decide +kernel
set_option maxRecDepth 100000 in
theorem aI142 : aC142.all (aIc 142) = true := by decide +kernel
set_option maxRecDepth 100000 in
theorem aI143 : aC143.all (aIc 143) = true := by decide +kernel
set_option maxRecDepth 100000 in
theorem aI144 : aC144.all (aIc 144) = true := by decide +kernel
set_option maxRecDepth 100000 in
theorem aI145 : aC145.all (aIc 145) = true := by decide +kernel
set_option maxRecDepth 100000 in
theorem aI146 : aC146.all (aIc 146) = true := by decide +kernel
set_option maxRecDepth 100000 in
theorem aI147 : aC147.all (aIc 147) = true := by decide +kernel
set_option maxRecDepth 100000 in
theorem aI148 : aC148.all (aIc 148) = true := by decide +kernel
set_option maxRecDepth 100000 in
theorem aI149 : aC149.all (aIc 149) = true := by decide +kernel
set_option maxRecDepth 100000 in
theorem aI150 : aC150.all (aIc 150) = true := by decide +kernel
set_option maxRecDepth 100000 in
theorem aI151 : aC151.all (aIc 151) = true := by decide +kernel
set_option maxRecDepth 100000 in
theorem aI152 : aC152.all (aIc 152) = true := by decide +kernel
set_option maxRecDepth 100000 in
theorem aI153 : aC153.all (aIc 153) = true := by decide +kernel
set_option maxRecDepth 100000 in
theorem aI154 : aC154.all (aIc 154) = true := by decide +kernel
set_option maxRecDepth 100000 in
theorem aI155 : aC155.all (aIc 155) = true := by decide +kernel
set_option maxRecDepth 100000 in
theorem aI156 : aC156.all (aIc 156) = true := by decide +kernel
set_option maxRecDepth 100000 in
theorem aI157 : aC157.all (aIc 157) = true := by decide +kernel
set_option maxRecDepth 100000 in
theorem aI158 : aC158.all (aIc 158) = true := by decide +kernel
set_option maxRecDepth 100000 in
theorem aI159 : aC159.all (aIc 159) = true := by decide +kernel
set_option maxRecDepth 100000 in
theorem aI160 : aC160.all (aIc 160) = true := by decide +kernel
set_option maxRecDepth 100000 in
theorem aI161 : aC161.all (aIc 161) = true := by decide +kernel
set_option maxRecDepth 100000 in
theorem aI162 : aC162.all (aIc 162) = true := by decide +kernel
set_option maxRecDepth 100000 in
theorem aI163 : aC163.all (aIc 163) = true := by decide +kernel
set_option maxRecDepth 100000 in
theorem aI164 : aC164.all (aIc 164) = true := by decide +kernel
set_option maxRecDepth 100000 in
theorem aI165 : aC165.all (aIc 165) = true := by decide +kernel
set_option maxRecDepth 100000 in
theorem aI166 : aC166.all (aIc 166) = true := by decide +kernel
set_option maxRecDepth 100000 in
theorem aI167 : aC167.all (aIc 167) = true := by decide +kernel
set_option maxRecDepth 100000 in
theorem aI168 : aC168.all (aIc 168) = true := by decide +kernel
set_option maxRecDepth 100000 in
theorem aI169 : aC169.all (aIc 169) = true := by decide +kernel
set_option maxRecDepth 100000 in
theorem aI170 : aC170.all (aIc 170) = true := by decide +kernel
set_option maxRecDepth 100000 in
theorem aI171 : aC171.all (aIc 171) = true := by decide +kernel
end
section
set_option maxRecDepth 100000 in
theorem aI172 : aC172.all (aIc 172) = true := by decide +kernel
set_option maxRecDepth 100000 in
theorem aI173 : aC173.all (aIc 173) = true := by decide +kernel
set_option maxRecDepth 100000 in
theorem aI174 : aC174.all (aIc 174) = true := by decide +kernel
set_option maxRecDepth 100000 in
theorem aI175 : aC175.all (aIc 175) = true := by decide +kernel
set_option maxRecDepth 100000 in
theorem aI176 : aC176.all (aIc 176) = true := by decide +kernel
set_option maxRecDepth 100000 in
theorem aI177 : aC177.all (aIc 177) = true := by decide +kernel
set_option maxRecDepth 100000 in
theorem aI178 : aC178.all (aIc 178) = true := by decide +kernel
set_option maxRecDepth 100000 in
theorem aI179 : aC179.all (aIc 179) = true := by decide +kernel
set_option maxRecDepth 100000 in
theorem aI180 : aC180.all (aIc 180) = true := by decide +kernel
set_option maxRecDepth 100000 in
theorem aI181 : aC181.all (aIc 181) = true := by decide +kernel
set_option maxRecDepth 100000 in
theorem aI182_0 : aC182_0.all (aIc 182) = true := by decide +kernel
set_option maxRecDepth 100000 in
theorem aI182_1 : aC182_1.all (aIc 182) = true := by decide +kernel
theorem aI182 : aC182.all (aIc 182) = true := by
  unfold aC182
  simp only [List.all_append, Bool.and_eq_true]
  exact ⟨aI182_0, aI182_1⟩
set_option maxRecDepth 100000 in
theorem aI183 : aC183.all (aIc 183) = true := by decide +kernel
set_option maxRecDepth 100000 in
theorem aI184 : aC184.all (aIc 184) = true := by decide +kernel
set_option maxRecDepth 100000 in
theorem aI185 : aC185.all (aIc 185) = true := by decide +kernel
set_option maxRecDepth 100000 in
theorem aI186 : aC186.all (aIc 186) = true := by decide +kernel
set_option maxRecDepth 100000 in
theorem aI187 : aC187.all (aIc 187) = true := by decide +kernel
set_option maxRecDepth 100000 in
theorem aI188 : aC188.all (aIc 188) = true := by decide +kernel
set_option maxRecDepth 100000 in
theorem aI189 : aC189.all (aIc 189) = true := by decide +kernel
set_option maxRecDepth 100000 in
theorem aI190 : aC190.all (aIc 190) = true := by decide +kernel
set_option maxRecDepth 100000 in
theorem aI191 : aC191.all (aIc 191) = true := by decide +kernel
set_option maxRecDepth 100000 in
theorem aI192 : aC192.all (aIc 192) = true := by decide +kernel
set_option maxRecDepth 100000 in
theorem aI193 : aC193.all (aIc 193) = true := by decide +kernel
set_option maxRecDepth 100000 in
theorem aI194 : aC194.all (aIc 194) = true := by decide +kernel
set_option maxRecDepth 100000 in
theorem aI195 : aC195.all (aIc 195) = true := by decide +kernel
set_option maxRecDepth 100000 in
theorem aI196 : aC196.all (aIc 196) = true := by decide +kernel
set_option maxRecDepth 100000 in
theorem aI197 : aC197.all (aIc 197) = true := by decide +kernel
set_option maxRecDepth 100000 in
theorem aI198 : aC198.all (aIc 198) = true := by decide +kernel
set_option maxRecDepth 100000 in
theorem aI199 : aC199.all (aIc 199) = true := by decide +kernel
set_option maxRecDepth 100000 in
theorem aI200 : aC200.all (aIc 200) = true := by decide +kernel
set_option maxRecDepth 100000 in
theorem aI201 : aC201.all (aIc 201) = true := by decide +kernel
set_option maxRecDepth 100000 in
theorem aI202 : aC202.all (aIc 202) = true := by decide +kernel
set_option maxRecDepth 100000 in
theorem aI203 : aC203.all (aIc 203) = true := by decide +kernel
end
section
set_option maxRecDepth 100000 in
theorem aI204 : aC204.all (aIc 204) = true := by decide +kernel
set_option maxRecDepth 100000 in
theorem aI205 : aC205.all (aIc 205) = true := by decide +kernel
set_option maxRecDepth 100000 in
theorem aI206 : aC206.all (aIc 206) = true := by decide +kernel
set_option maxRecDepth 100000 in
theorem aI207 : aC207.all (aIc 207) = true := by decide +kernel
set_option maxRecDepth 100000 in
theorem aI208 : aC208.all (aIc 208) = true := by decide +kernel
set_option maxRecDepth 100000 in
theorem aI209 : aC209.all (aIc 209) = true := by decide +kernel
set_option maxRecDepth 100000 in
theorem aI210 : aC210.all (aIc 210) = true := by decide +kernel
set_option maxRecDepth 100000 in
theorem aI211 : aC211.all (aIc 211) = true := by decide +kernel
set_option maxRecDepth 100000 in
theorem aI212 : aC212.all (aIc 212) = true := by decide +kernel
set_option maxRecDepth 100000 in
theorem aI213 : aC213.all (aIc 213) = true := by decide +kernel
set_option maxRecDepth 100000 in
theorem aI214 : aC214.all (aIc 214) = true := by decide +kernel
set_option maxRecDepth 100000 in
theorem aI215 : aC215.all (aIc 215) = true := by decide +kernel
set_option maxRecDepth 100000 in
theorem aI216 : aC216.all (aIc 216) = true := by decide +kernel
set_option maxRecDepth 100000 in
theorem aI217 : aC217.all (aIc 217) = true := by decide +kernel
set_option maxRecDepth 100000 in
theorem aI218 : aC218.all (aIc 218) = true := by decide +kernel
set_option maxRecDepth 100000 in
theorem aI219 : aC219.all (aIc 219) = true := by decide +kernel
set_option maxRecDepth 100000 in
theorem aI220 : aC220.all (aIc 220) = true := by decide +kernel
set_option maxRecDepth 100000 in
theorem aI221 : aC221.all (aIc 221) = true := by decide +kernel
set_option maxRecDepth 100000 in
theorem aI222 : aC222.all (aIc 222) = true := by decide +kernel
set_option maxRecDepth 100000 in
theorem aI223 : aC223.all (aIc 223) = true := by decide +kernel
set_option maxRecDepth 100000 in
theorem aI224 : aC224.all (aIc 224) = true := by decide +kernel
set_option maxRecDepth 100000 in
theorem aI225 : aC225.all (aIc 225) = true := by decide +kernel
set_option maxRecDepth 100000 in
theorem aI226 : aC226.all (aIc 226) = true := by decide +kernel
set_option maxRecDepth 100000 in
theorem aI227 : aC227.all (aIc 227) = true := by decide +kernel
set_option maxRecDepth 100000 in
theorem aI228 : aC228.all (aIc 228) = true := by decide +kernel
set_option maxRecDepth 100000 in
theorem aI229 : aC229.all (aIc 229) = true := by decide +kernel
set_option maxRecDepth 100000 in
theorem aI230 : aC230.all (aIc 230) = true := by decide +kernel
set_option maxRecDepth 100000 in
theorem aI231 : aC231.all (aIc 231) = true := by decide +kernel
set_option maxRecDepth 100000 in
theorem aI232 : aC232.all (aIc 232) = true := by decide +kernel
set_option maxRecDepth 100000 in
theorem aI233 : aC233.all (aIc 233) = true := by decide +kernel
set_option maxRecDepth 100000 in
theorem aI234 : aC234.all (aIc 234) = true := by decide +kernel
set_option maxRecDepth 100000 in
theorem aI235 : aC235.all (aIc 235) = true := by decide +kernel
set_option maxRecDepth 100000 in
theorem aI236 : aC236.all (aIc 236) = true := by decide +kernel
set_option maxRecDepth 100000 in
theorem aI237 : aC237.all (aIc 237) = true := by decide +kernel
set_option maxRecDepth 100000 in
theorem aI238 : aC238.all (aIc 238) = true := by decide +kernel
set_option maxRecDepth 100000 in
theorem aI239 : aC239.all (aIc 239) = true := by decide +kernel
set_option maxRecDepth 100000 in
theorem aI240 : aC240.all (aIc 240) = true := by decide +kernel
set_option maxRecDepth 100000 in
theorem aI241 : aC241.all (aIc 241) = true := by decide +kernel
set_option maxRecDepth 100000 in
theorem aI242 : aC242.all (aIc 242) = true := by decide +kernel
set_option maxRecDepth 100000 in
theorem aI243 : aC243.all (aIc 243) = true := by decide +kernel
end
section
set_option maxRecDepth 100000 in
theorem aI244 : aC244.all (aIc 244) = true := by decide +kernel
set_option maxRecDepth 100000 in
theorem aI245 : aC245.all (aIc 245) = true := by decide +kernel
set_option maxRecDepth 100000 in
theorem aI246 : aC246.all (aIc 246) = true := by decide +kernel
set_option maxRecDepth 100000 in
theorem aI247 : aC247.all (aIc 247) = true := by decide +kernel
set_option maxRecDepth 100000 in
theorem aI248 : aC248.all (aIc 248) = true := by decide +kernel
set_option maxRecDepth 100000 in
theorem aI249 : aC249.all (aIc 249) = true := by decide +kernel
set_option maxRecDepth 100000 in
theorem aI250 : aC250.all (aIc 250) = true := by decide +kernel
set_option maxRecDepth 100000 in
theorem aI251 : aC251.all (aIc 251) = true := by decide +kernel
set_option maxRecDepth 100000 in
theorem aI252 : aC252.all (aIc 252) = true := by decide +kernel
set_option maxRecDepth 100000 in
theorem aI253 : aC253.all (aIc 253) = true := by decide +kernel
set_option maxRecDepth 100000 in
theorem aI254 : aC254.all (aIc 254) = true := by decide +kernel
set_option maxRecDepth 100000 in
theorem aI255 : aC255.all (aIc 255) = true := by decide +kernel
set_option maxRecDepth 100000 in
theorem aI256 : aC256.all (aIc 256) = true := by decide +kernel
set_option maxRecDepth 100000 in
theorem aI257 : aC257.all (aIc 257) = true := by decide +kernel
set_option maxRecDepth 100000 in
theorem aI258 : aC258.all (aIc 258) = true := by decide +kernel
set_option maxRecDepth 100000 in
theorem aI259 : aC259.all (aIc 259) = true := by decide +kernel
set_option maxRecDepth 100000 in
theorem aI260 : aC260.all (aIc 260) = true := by decide +kernel
set_option maxRecDepth 100000 in
theorem aI261 : aC261.all (aIc 261) = true := by decide +kernel
set_option maxRecDepth 100000 in
theorem aI262 : aC262.all (aIc 262) = true := by decide +kernel
set_option maxRecDepth 100000 in
theorem aI263 : aC263.all (aIc 263) = true := by decide +kernel
set_option maxRecDepth 100000 in
theorem aI264 : aC264.all (aIc 264) = true := by decide +kernel
set_option maxRecDepth 100000 in
theorem aI265 : aC265.all (aIc 265) = true := by decide +kernel
end
section
set_option maxRecDepth 100000 in
theorem aI266 : aC266.all (aIc 266) = true := by decide +kernel
set_option maxRecDepth 100000 in
theorem aI267 : aC267.all (aIc 267) = true := by decide +kernel
set_option maxRecDepth 100000 in
theorem aI268 : aC268.all (aIc 268) = true := by decide +kernel
set_option maxRecDepth 100000 in
theorem aI269 : aC269.all (aIc 269) = true := by decide +kernel
set_option maxRecDepth 100000 in
theorem aI270 : aC270.all (aIc 270) = true := by decide +kernel
set_option maxRecDepth 100000 in
theorem aI271 : aC271.all (aIc 271) = true := by decide +kernel
set_option maxRecDepth 100000 in
theorem aI272 : aC272.all (aIc 272) = true := by decide +kernel
set_option maxRecDepth 100000 in
theorem aI273 : aC273.all (aIc 273) = true := by decide +kernel
set_option maxRecDepth 100000 in
theorem aI274 : aC274.all (aIc 274) = true := by decide +kernel
set_option maxRecDepth 100000 in
theorem aI275 : aC275.all (aIc 275) = true := by decide +kernel
set_option maxRecDepth 100000 in
theorem aI276 : aC276.all (aIc 276) = true := by decide +kernel
set_option maxRecDepth 100000 in
theorem aI277 : aC277.all (aIc 277) = true := by decide +kernel
set_option maxRecDepth 100000 in
theorem aI278 : aC278.all (aIc 278) = true := by decide +kernel
set_option maxRecDepth 100000 in
theorem aI279 : aC279.all (aIc 279) = true := by decide +kernel
set_option maxRecDepth 100000 in
theorem aI280 : aC280.all (aIc 280) = true := by decide +kernel
set_option maxRecDepth 100000 in
theorem aI281 : aC281.all (aIc 281) = true := by decide +kernel
set_option maxRecDepth 100000 in
theorem aI282 : aC282.all (aIc 282) = true := by decide +kernel
set_option maxRecDepth 100000 in
theorem aI283 : aC283.all (aIc 283) = true := by decide +kernel
set_option maxRecDepth 100000 in
theorem aI284 : aC284.all (aIc 284) = true := by decide +kernel
set_option maxRecDepth 100000 in
theorem aI285 : aC285.all (aIc 285) = true := by decide +kernel
set_option maxRecDepth 100000 in
theorem aI286 : aC286.all (aIc 286) = true := by decide +kernel
set_option maxRecDepth 100000 in
theorem aI287 : aC287.all (aIc 287) = true := by decide +kernel
set_option maxRecDepth 100000 in
theorem aI288 : aC288.all (aIc 288) = true := by decide +kernel
set_option maxRecDepth 100000 in
theorem aI289_0 : aC289_0.all (aIc 289) = true := by decide +kernel
set_option maxRecDepth 100000 in
theorem aI289_1 : aC289_1.all (aIc 289) = true := by decide +kernel
theorem aI289 : aC289.all (aIc 289) = true := by
  unfold aC289
  simp only [List.all_append, Bool.and_eq_true]
  exact ⟨aI289_0, aI289_1⟩
set_option maxRecDepth 100000 in
theorem aI290 : aC290.all (aIc 290) = true := by decide +kernel
set_option maxRecDepth 100000 in
theorem aI291 : aC291.all (aIc 291) = true := by decide +kernel
set_option maxRecDepth 100000 in
theorem aI292 : aC292.all (aIc 292) = true := by decide +kernel
set_option maxRecDepth 100000 in
theorem aI293 : aC293.all (aIc 293) = true := by decide +kernel
set_option maxRecDepth 100000 in
theorem aI294 : aC294.all (aIc 294) = true := by decide +kernel
end
section
set_option maxRecDepth 100000 in
theorem aI295 : aC295.all (aIc 295) = true := by decide +kernel
set_option maxRecDepth 100000 in
theorem aI296_0 : aC296_0.all (aIc 296) = true := by decide +kernel
set_option maxRecDepth 100000 in
theorem aI296_1 : aC296_1.all (aIc 296) = true := by decide +kernel
set_option maxRecDepth 100000 in
theorem aI296_2 : aC296_2.all (aIc 296) = true := by decide +kernel
set_option maxRecDepth 100000 in
theorem aI296_3 : aC296_3.all (aIc 296) = true := by decide +kernel
set_option maxRecDepth 100000 in
theorem aI296_4 : aC296_4.all (aIc 296) = true := by decide +kernel
set_option maxRecDepth 100000 in
theorem aI296_5 : aC296_5.all (aIc 296) = true := by decide +kernel
set_option maxRecDepth 100000 in
theorem aI296_6 : aC296_6.all (aIc 296) = true := by decide +kernel
set_option maxRecDepth 100000 in
theorem aI296_7 : aC296_7.all (aIc 296) = true := by decide +kernel
set_option maxRecDepth 100000 in
theorem aI296_8 : aC296_8.all (aIc 296) = true := by decide +kernel
set_option maxRecDepth 100000 in
theorem aI296_9 : aC296_9.all (aIc 296) = true := by decide +kernel
set_option maxRecDepth 100000 in
theorem aI296_10 : aC296_10.all (aIc 296) = true := by decide +kernel
theorem aI296 : aC296.all (aIc 296) = true := by
  unfold aC296
  simp only [List.all_append, Bool.and_eq_true]
  exact ⟨aI296_0, aI296_1, aI296_2, aI296_3, aI296_4, aI296_5, aI296_6, aI296_7, aI296_8, aI296_9, aI296_10⟩
set_option maxRecDepth 100000 in
theorem aI297 : aC297.all (aIc 297) = true := by decide +kernel
set_option maxRecDepth 100000 in
theorem aI298 : aC298.all (aIc 298) = true := by decide +kernel
set_option maxRecDepth 100000 in
theorem aI299 : aC299.all (aIc 299) = true := by decide +kernel
set_option maxRecDepth 100000 in
theorem aI300 : aC300.all (aIc 300) = true := by decide +kernel
set_option maxRecDepth 100000 in
theorem aI301 : aC301.all (aIc 301) = true := by decide +kernel
set_option maxRecDepth 100000 in
theorem aI302 : aC302.all (aIc 302) = true := by decide +kernel
end
section
/-! THE INVARIANT: AM's state and the heap -/
/-- what stays the same over the law's whole run: the tables' numbers, the classes of rows by their kind, where the new cells begin, the places ahead of them, the formatter, the script, the cells that a method found -/
abbrev aEnv : Type := va_G × (Nat → ClassId) × Nat × (Nat → Nat) × Option Nat × Nat × (Nat → Int32) × List Nat
def aA (G : aEnv) : Nat → Prop := fun q => G.2.2.1 ≤ q
def aAdr (G : aEnv) (ad : List Nat) (k : Nat) : Nat := if k < 6 then G.2.2.2.1 k else ad.getD (k - 6) 0
def aUp (G : aEnv) (ad : List Nat) (v : Value) : Value := match v with
  | .ref k => if k = 5 then va_rf G.2.2.2.2.1 else .ref (aAdr G ad k)
  | v => v
abbrev aTys (G : aEnv) : List (ClassId × FieldType) := [(G.2.1 12, .byte), (G.2.1 13, .char), (G.2.1 14, .int), (G.2.1 15, .long), (G.2.1 16, .boolean)]
def aFv (G : aEnv) (ad : List Nat) (ty : FieldType) (x : Int32) (p : Nat) : Value := match ty with
  | .int => .int x
  | .boolean => .int x
  | _ => aUp G ad (aRf p)
def aEn (G : aEnv) (ad : List Nat) (σ : aS) (i : Nat) : va_E :=
  if aKd i < 12 then .inr (aKd i, (List.range (aLn i)).map (fun j => aFv G ad ((aTyF.getD (aKd i) tyX0) j) (σ.2.1 i j) (σ.2.2.2 i j)))
  else .inl (G.2.1 (aKd i), aLn i, if aKd i = 15 then .inr (.inl (σ.2.2.1 i)) else .inl (σ.2.1 i))
def aWs (G : aEnv) (ad : List Nat) (σ : aS) : va_W := ad.mapIdx (fun i a => (a, aEn G ad σ (i + 6)))
def aStd : List Int32 := [115, 42, 49, 48, 45, 99, 42, 49, 53, 43, 40, 110, 43, 105, 41, 47, 51]
def aThg : List Int32 := [115, 99, 105, 119, 110, 111, 109, 97]
def aWf (G : aEnv) (ad : List Nat) (σ : aS) : Prop := (∀ i j, 6 ≤ i → σ.2.2.2 i j ≤ σ.1.1) ∧ (∀ i j, σ.1.1 ≤ i → σ.2.1 i j = 0 ∧ σ.2.2.1 i j = 0 ∧ σ.2.2.2 i j = 0) ∧ 6 ≤ σ.1.1 ∧ σ.2.2.2 0 0 = G.2.2.2.2.2.1 ∧ (∀ j, σ.2.1 0 j = G.2.2.2.2.2.2.1 j) ∧ (∀ j, σ.2.1 3 j = aStd.getD j 0) ∧ (∀ j, σ.2.1 4 j = aThg.getD j 0) ∧ ∃ x, ad = G.2.2.2.2.2.2.2 ++ x
def aInv (G : aEnv) (ad : List Nat) (σ : aS) (H : Heap) : Prop := ad.length + 6 = σ.1.1 ∧ va_P G.1 vwCl (aWs G ad σ) H ∧ va_D (aA G) (aWs G ad σ) ∧ aWf G ad σ
def aVk (n : Nat) (v : Value) : Prop := match v with
  | .ref k => k < n
  | .double _ => False
  | _ => True
def aLr (G : aEnv) (ad : List Nat) (n : Nat) (ls : Array Slot) (L : List Value) : Prop := ls.size = L.length ∧ lv_wf ls ∧ (∀ (i : Nat) (v : Value), L[i]? = some v → v ≠ aNo → ls[i]? = some (.val (aUp G ad v))) ∧ ∀ v ∈ L, aVk n v
theorem aKd_lt {o : Nat} (h : aKd o < 20) : 6 ≤ o ∧ o < 68 := by
  have h2 : o < 68 := by
    rcases Nat.lt_or_ge o 68 with q | q
    · exact q
    · have : aKd o = 99 := by
        unfold aKd
        rw [List.getD_eq_getElem?_getD, List.getElem?_eq_none (by exact q)]
        rfl
      omega
  have h0 : ∀ i, i < 6 → 20 ≤ aKd i := by decide +kernel
  refine ⟨?_, h2⟩
  rcases Nat.lt_or_ge o 6 with q | q
  · have := h0 o q; omega
  · exact q
theorem aKd_cls : ∀ o, o < 68 → aKd o < 12 → ∃ C T, vwCl[aKd o]? = some (C, T, aLn o) := by
  have h : ∀ o, o < 68 → aKd o < 12 → (vwCl[aKd o]?).map (fun q => q.2.2) = some (aLn o) := by decide +kernel
  intro o h1 h2
  have h3 := h o h1 h2
  cases h4 : vwCl[aKd o]? with
  | none => rw [h4] at h3; cases h3
  | some q =>
    rw [h4] at h3
    obtain ⟨C, T, N⟩ := q
    simp at h3
    subst h3
    exact ⟨C, T, rfl⟩
theorem aWs_get (G : aEnv) (ad : List Nat) (σ : aS) (n : Nat) : (aWs G ad σ)[n]? = (ad[n]?).map (fun a => (a, aEn G ad σ (n + 6))) := by
  unfold aWs
  rw [List.getElem?_mapIdx]
theorem aWs_at {G : aEnv} {ad : List Nat} {σ : aS} {o : Nat} (h6 : 6 ≤ o) (hc : o < ad.length + 6) : (aWs G ad σ)[o - 6]? = some (aAdr G ad o, aEn G ad σ o) := by
  rw [aWs_get, List.getElem?_eq_getElem (by omega : o - 6 < ad.length)]
  have : aAdr G ad o = ad[o - 6] := by
    unfold aAdr
    rw [if_neg (by omega)]
    simp [List.getD_eq_getElem?_getD, List.getElem?_eq_getElem (by omega : o - 6 < ad.length)]
  simp [this, Nat.sub_add_cancel h6]
theorem aWs_set {G : aEnv} {ad : List Nat} {σ σ' : aS} {o : Nat} {e : va_E} (h6 : 6 ≤ o) (hc : o < ad.length + 6) (he : aEn G ad σ' o = e) (hne : ∀ i, 6 ≤ i → i ≠ o → aEn G ad σ' i = aEn G ad σ i) : (aWs G ad σ).set (o - 6) (aAdr G ad o, e) = aWs G ad σ' := by
  refine List.ext_getElem? fun n => ?_
  have hl : o - 6 < (aWs G ad σ).length := by
    unfold aWs
    rw [List.length_mapIdx]
    omega
  by_cases hn : o - 6 = n
  · subst hn
    rw [List.getElem?_set_self hl, aWs_at h6 hc, he]
  · rw [List.getElem?_set_ne hn, aWs_get, aWs_get]
    cases ad[n]? with
    | none => rfl
    | some a => simp [hne (n + 6) (by omega) (by omega)]
theorem aEn_same {G : aEnv} {ad : List Nat} {σ σ' : aS} {i : Nat} (h1 : σ'.2.1 i = σ.2.1 i) (h2 : σ'.2.2.1 i = σ.2.2.1 i) (h3 : σ'.2.2.2 i = σ.2.2.2 i) : aEn G ad σ' i = aEn G ad σ i := by
  unfold aEn
  rw [h1, h2, h3]
theorem aU_ne {α : Type} {f : Nat → Nat → α} {a i b : Nat} {v : α} (h : b ≠ a) : aU f a i v b = f b := by
  funext j
  simp [aU, h]
theorem aU_row {f : Nat → Nat → Int32} {a i : Nat} {v : Int32} : aU f a i v a = upd (f a) i v := by
  funext j
  simp [aU, upd]
theorem aU_rowL {f : Nat → Nat → Int64} {a i : Nat} {v : Int64} : aU f a i v a = vp_updL (f a) i v := by
  funext j
  simp [aU, vp_updL]
theorem aMap_set {n j : Nat} {f f' : Nat → Value} {v : Value} (h : f' j = v) (hn : ∀ i, i ≠ j → f' i = f i) : (List.range n).map f' = ((List.range n).map f).set j v := by
  refine List.ext_getElem? fun i => ?_
  by_cases hi : i < n
  · by_cases hj : j = i
    · subst hj
      rw [List.getElem?_set_self (by simpa using hi)]
      simp [hi, h]
    · rw [List.getElem?_set_ne hj]
      simp [hi, hn i (fun q => hj q.symm)]
  · rw [List.getElem?_eq_none (by simp; omega), List.getElem?_eq_none (by simp; omega)]
/-- an int of a row or of an object -/
theorem aWf_PI {G : aEnv} {ad : List Nat} {σ : aS} {o j : Nat} {x : Int32} (h : aWf G ad σ) (h6 : 6 ≤ o) (hc : o < σ.1.1) : aWf G ad (aPI σ o j x) := by
  obtain ⟨w1, w2, w3, w4, w5, w6, w7, w8⟩ := h
  refine ⟨w1, fun i j' hi => ?_, w3, w4, ?_, ?_, ?_, w8⟩
  · have : (aPI σ o j x).2.1 i = σ.2.1 i := aU_ne (by have : (aPI σ o j x).1.1 = σ.1.1 := rfl; omega)
    rw [this]
    exact w2 i j' hi
  all_goals
    intro j'
    show aU σ.2.1 o j x _ j' = _
    rw [aU_ne (by omega)]
    first | exact w5 j' | exact w6 j' | exact w7 j'
theorem aWf_PJ {G : aEnv} {ad : List Nat} {σ : aS} {o j : Nat} {x : Int64} (h : aWf G ad σ) (hc : o < σ.1.1) : aWf G ad (aPJ σ o j x) := by
  obtain ⟨w1, w2, w3, w4, w5, w6, w7, w8⟩ := h
  refine ⟨w1, fun i j' hi => ?_, w3, w4, w5, w6, w7, w8⟩
  have : (aPJ σ o j x).2.2.1 i = σ.2.2.1 i := aU_ne (by have : (aPJ σ o j x).1.1 = σ.1.1 := rfl; omega)
  rw [this]
  exact w2 i j' hi
theorem aWf_PP {G : aEnv} {ad : List Nat} {σ : aS} {o j x : Nat} (h : aWf G ad σ) (h6 : 6 ≤ o) (hc : o < σ.1.1) (hx : x < σ.1.1) : aWf G ad (aPP σ o j (x + 1)) := by
  obtain ⟨w1, w2, w3, w4, w5, w6, w7, w8⟩ := h
  refine ⟨fun i j' hi => ?_, fun i j' hi => ?_, w3, ?_, w5, w6, w7, w8⟩
  · show aU σ.2.2.2 o j (x + 1) i j' ≤ σ.1.1
    unfold aU
    split
    · split
      · omega
      · exact w1 i j' hi
    · exact w1 i j' hi
  · have : (aPP σ o j (x + 1)).2.2.2 i = σ.2.2.2 i := aU_ne (by have : (aPP σ o j (x + 1)).1.1 = σ.1.1 := rfl; omega)
    rw [this]
    exact w2 i j' hi
  · show aU σ.2.2.2 o j (x + 1) 0 0 = _
    rw [aU_ne (by omega)]
    exact w4
theorem aWf_Cp {G : aEnv} {ad : List Nat} {σ : aS} {o i o' j n : Nat} (h : aWf G ad σ) (h6 : 6 ≤ o') (hc : o' < σ.1.1) : aWf G ad (aCp σ o i o' j n) := by
  obtain ⟨w1, w2, w3, w4, w5, w6, w7, w8⟩ := h
  have ne : ∀ q, q ≠ o' → (aCp σ o i o' j n).2.1 q = σ.2.1 q := fun q hq => by funext j'; simp [aCp, hq]
  refine ⟨w1, fun q j' hi => ?_, w3, w4, fun j' => ?_, fun j' => ?_, fun j' => ?_, w8⟩
  · rw [ne q (by have : (aCp σ o i o' j n).1.1 = σ.1.1 := rfl; omega)]
    exact w2 q j' hi
  · rw [ne 0 (by omega)]; exact w5 j'
  · rw [ne 3 (by omega)]; exact w6 j'
  · rw [ne 4 (by omega)]; exact w7 j'
theorem aWf_New {G : aEnv} {ad : List Nat} {σ : aS} {nm n : Nat} (y : List Nat) (h : aWf G ad σ) : aWf G (ad ++ y) (aNew σ nm n) := by
  obtain ⟨w1, w2, w3, w4, w5, w6, w7, x, w8⟩ := h
  exact ⟨fun i j hi => Nat.le_trans (w1 i j hi) (Nat.le_add_right _ _), fun i j hi => w2 i j (Nat.le_trans (Nat.le_add_right _ _) hi), Nat.le_trans w3 (Nat.le_add_right _ _), w4, w5, w6, w7, x ++ y, by rw [w8, List.append_assoc]⟩
/-- the same, for a method that is called now -/
def aG0 (G : aEnv) (ad : List Nat) : aEnv := (G.1, G.2.1, G.2.2.1, G.2.2.2.1, G.2.2.2.2.1, G.2.2.2.2.2.1, G.2.2.2.2.2.2.1, ad)
theorem aInv_in {G : aEnv} {ad : List Nat} {σ : aS} {H : Heap} (h : aInv G ad σ H) : aInv (aG0 G ad) ad σ H := by
  obtain ⟨h1, h2, h3, w1, w2, w3, w4, w5, w6, w7, -⟩ := h
  exact ⟨h1, h2, h3, w1, w2, w3, w4, w5, w6, w7, [], (List.append_nil ad).symm⟩
theorem aInv_out {G : aEnv} {ad ad' : List Nat} {σ τ : aS} {H H' : Heap} (h0 : aInv G ad σ H) (h : aInv (aG0 G ad) ad' τ H') : ∃ x, ad' = ad ++ x ∧ aInv G (ad ++ x) τ H' := by
  obtain ⟨-, -, -, -, -, -, -, -, -, -, y, hy⟩ := h0
  obtain ⟨h1, h2, h3, w1, w2, w3, w4, w5, w6, w7, x, hx⟩ := h
  have hx' : ad' = ad ++ x := hx
  subst hx'
  exact ⟨x, rfl, h1, h2, h3, w1, w2, w3, w4, w5, w6, w7, y ++ x, by rw [hy, List.append_assoc]⟩
end
section
/-! THE MACHINE DOES WHAT AM SAYS -/
def aVs (n : Nat) (st : List Value) : Prop := ∀ v ∈ st, aVk n v
theorem aVs.t {n : Nat} {v : Value} {st : List Value} (h : aVs n (v :: st)) : aVs n st := fun w hw => h w (List.mem_cons_of_mem _ hw)
theorem aVs.h {n : Nat} {v : Value} {st : List Value} (h : aVs n (v :: st)) : aVk n v := h v List.mem_cons_self
theorem aVs.c {n : Nat} {v : Value} {st : List Value} (hv : aVk n v) (h : aVs n st) : aVs n (v :: st) := fun w hw => (List.mem_cons.mp hw).elim (fun e => e ▸ hv) (h w)
/-- what a throw needs of the start -/
def aBt (G : aEnv) (U : State) (H : Heap) : Prop := True
theorem aBt.go {G : aEnv} {s U : State} {H H' : Heap} (_ : s.WarmedH U.vm) (_ : ∀ q : Nat, q < H.size → ¬ aA G q → H'[q]? = H[q]?) (_ : aBt G s H) : aBt G U H' := trivial
def aStrings (G : aEnv) (i : Nat) (n : Nat) (bs : List Int32) (U : State) (H : Heap) : Prop :=
  va_O "java/lang/String" (G.2.2.2.1 i) (aA G) U H ∧ va_OF "java/lang/String" "value" "[B" (.ref (G.2.2.2.1 (i + 2))) (G.2.2.2.1 i) (aA G) U H ∧ va_OF "java/lang/String" "coder" "B" (.int 0) (G.2.2.2.1 i) (aA G) U H ∧ va_T .byte (G.2.2.2.1 (i + 2)) n (fun j => .int (bs.getD j 0)) (aA G) U H
/-- what every state of the run keeps of the start -/
def aBs (G : aEnv) (U : State) (H : Heap) : Prop :=
  va_K G.1 vwCl (aTys G) U ∧ (va_X (G.2.2.2.1 0) G.2.2.2.2.2.1 G.2.2.2.2.2.2.1 U H ∧ ¬ aA G (G.2.2.2.1 0)) ∧ aStrings G 1 17 aStd U H ∧ aStrings G 2 8 aThg U H ∧
  va_Z "java/lang/String" "COMPACT_STRINGS" "Z" (.int 1) (aA G) U H ∧ va_Z "jdk/internal/util/Preconditions" "SIOOBE_FORMATTER" "Ljava/util/function/BiFunction;" (va_rf G.2.2.2.2.1) (aA G) U H ∧
  (∀ q ∈ aKS, ∃ tx, vk_R (aOw q.1) q.2.1 tx (G.2.2.2.1 q.2.2) U) ∧ (∀ q ∈ aNLk, va_Nw (.methodLinkNest (aOw q.1) q.2.1 (aNm q.2.2.1).1 "BluesAndGreens") U) ∧ aBt G U H
theorem aStrings.go {G : aEnv} {i n : Nat} {bs : List Int32} {s U : State} {H H' : Heap} (hW : s.vm.Alike U.vm) (hk : ∀ q : Nat, q < H.size → ¬ aA G q → H'[q]? = H[q]?) (h : aStrings G i n bs s H) : aStrings G i n bs U H' := by
  obtain ⟨h1, h2, h3, h4⟩ := h
  exact ⟨(h1.moved hW).kept hk, (h2.moved hW).kept hk, (h3.moved hW).kept hk, (h4.moved hW).kept hk⟩
theorem aBs.go {G : aEnv} {s U : State} {H H' : Heap} (hW : s.WarmedH U.vm) (hk : ∀ q : Nat, q < H.size → ¬ aA G q → H'[q]? = H[q]?) (h : aBs G s H) : aBs G U H' := by
  obtain ⟨h1, ⟨h2, h2'⟩, h3, h4, h5, h6, h7, h8, h9⟩ := h
  have hb : G.2.2.2.1 0 < H.size := by
    obtain ⟨scr, q, -⟩ := h2
    exact (Array.getElem?_eq_some_iff.mp q).1
  refine ⟨va_K.moved hW.alike h1, ⟨(h2.moved hW.alike).kept (hk _ hb h2'), h2'⟩, h3.go hW.alike hk, h4.go hW.alike hk, (h5.moved hW.alike).kept hk, (h6.moved hW.alike).kept hk, fun q hq => ?_, fun q hq => va_Nw.warmM hW (h8 q hq), h9.go hW hk⟩
  obtain ⟨tx, z⟩ := h7 q hq
  exact ⟨tx, vk_R.warm hW z⟩
abbrev aRm (d k mc ms : Nat) : Room := { frames := (aMt k).2.2.2.2 + 16 * d + 8, cells := mc, slots := ms, locals := 41 * ((aMt k).2.2.2.2 + 16 * d + 8) }
/-- a callee's start and end -/
abbrev aPre (G : aEnv) (ad : List Nat) (σ : aS) : State → Prop := fun U => aInv G ad σ U.heap ∧ aBs G U U.heap ∧ G.2.2.1 ≤ U.heap.size
def aPost (G : aEnv) (ad : List Nat) (v : Option Value) (τ : aS) : Array Value → State → Outcome → State → Prop := fun _ st oc t => ∃ x : List Nat, oc = .returned (v.map (aUp G (ad ++ x))) ∧ aInv G (ad ++ x) τ t.heap ∧ va_F (aA G) st t
/-- a callee of AM that returned, at the machine -/
def aMet (l : Launch) (G : aEnv) (d k : Nat) (as : List Value) (σ : aS) (v : Option Value) (τ : aS) : Prop :=
  (σ.1.2.1 ≤ τ.1.2.1 ∧ σ.1.2.2 ≤ τ.1.2.2) ∧ (∀ w, v = some w → aVk τ.1.1 w) ∧ ∀ ad : List Nat, ad.length + 6 = σ.1.1 → aVs σ.1.1 as → Met l (aNm k).1 (aCd k :: aTb) (aRm d k (τ.1.2.1 - σ.1.2.1) (τ.1.2.2 - σ.1.2.2)) (va_Pc (as.map (aUp G ad)) (aPre G ad σ)) (aPost G ad v τ) (τ.1.2.1 - σ.1.2.1) (τ.1.2.2 - σ.1.2.2) (aA G)
/-- from here on the machine comes to its end -/
def aGo (p : Program) (l : Launch) (e : Env) (R : Room) (s : State) (m : MethodId) (args : Array Value) (below : List Frame) (meth : Method) (c : Code) (Q : State → Prop) (G : aEnv) (k : Nat) (g0 : Nat × Nat) (pc : Nat) (L st : List Value) (σ : aS) : Prop :=
  ∀ (ad : List Nat) (H : Heap) (locs : List Loc) (ls : Array Slot), aInv G ad σ H → va_S (aA G) s.heap H locs → aLr G ad σ.1.1 ls L → aVs σ.1.1 st → g0.1 ≤ σ.1.2.1 → g0.2 ≤ σ.1.2.2 → L.length = (aMt k).2.2.1 →
    W p l e R s m args below meth c H locs (σ.1.2.1 - g0.1) (σ.1.2.2 - g0.2) Q (F0 m pc ls (st.map (aUp G ad)))
def aKok (p : Program) (l : Launch) (e : Env) (R : Room) (s : State) (m : MethodId) (args : Array Value) (below : List Frame) (meth : Method) (c : Code) (Q : State → Prop) (G : aEnv) (k : Nat) (g0 : Nat × Nat) (K : Nat → List Value → List Value → aS → Option aO) (o : aO) : Prop :=
  ∀ pc' L' st' σ', K pc' L' st' σ' = some o → aGo p l e R s m args below meth c Q G k g0 pc' L' st' σ' ∧ σ'.1.2.1 ≤ o.2.1.2.1 ∧ σ'.1.2.2 ≤ o.2.1.2.2
/-- the frame that runs: its code, its words, what is kept of the start, its room -/
def aFx (p : Program) (R : Room) (s : State) (m : MethodId) (args : Array Value) (meth : Method) (c : Code) (G : aEnv) (d k : Nat) (g0 : Nat × Nat) (o : aO) : Prop :=
  p.tables.exec = Jvm.exec ∧ c.code = (aNm k).2.1 ∧ c.maxLocals = (aMt k).2.2.1 ∧ s.vm.findClass (aOw (aOn k)) = some m.cls ∧ (∀ w ∈ aTb, w.before args s = true) ∧ aBs G s s.heap ∧ G.2.2.1 ≤ s.heap.size ∧ meth.name = (aNm k).1.name ∧
  (aMt k).2.2.2.2 + 16 * d + 8 ≤ R.frames ∧ 41 * ((aMt k).2.2.2.2 + 16 * d + 8) ≤ R.locals ∧ o.2.1.2.1 ≤ g0.1 + R.cells ∧ o.2.1.2.2 ≤ g0.2 + R.slots
section Snd0
variable {G : aEnv} {ad : List Nat}
theorem aUp_at (k : Nat) : aUp G ad (.ref k) = if k = 5 then va_rf G.2.2.2.2.1 else .ref (aAdr G ad k) := rfl
theorem aUp_appr (x : List Nat) (k : Nat) (hk : k < ad.length + 6) : aUp G (ad ++ x) (.ref k) = aUp G ad (.ref k) := by
  rw [aUp_at, aUp_at]
  unfold aAdr
  by_cases h5 : k = 5
  · simp [h5]
  · by_cases h6 : k < 6
    · simp [h5, h6]
    · have : k - 6 < ad.length := by omega
      simp [h5, h6, List.getD_eq_getElem?_getD, List.getElem?_append_left this]
theorem aUp_app {v : Value} (x : List Nat) (h : aVk (ad.length + 6) v) : aUp G (ad ++ x) v = aUp G ad v := by
  cases v with
  | ref k => exact aUp_appr x k h
  | _ => rfl
theorem aUp_lo {k : Nat} (h : k < 5) : aUp G ad (.ref k) = .ref (G.2.2.2.1 k) := by
  rw [aUp_at, if_neg (by omega)]
  unfold aAdr
  rw [if_pos (by omega)]
theorem aUp_hi {k : Nat} (h : 6 ≤ k) : aUp G ad (.ref k) = .ref (aAdr G ad k) := by
  rw [aUp_at, if_neg (by omega)]
theorem aUp_map {n : Nat} {st : List Value} (x : List Nat) (hn : ad.length + 6 = n) (h : aVs n st) : st.map (aUp G (ad ++ x)) = st.map (aUp G ad) := by
  refine List.map_congr_left fun v hv => aUp_app x ?_
  rw [hn]
  exact h v hv
theorem aVk_le {n n' : Nat} {v : Value} (h : n ≤ n') (hv : aVk n v) : aVk n' v := by
  cases v with
  | ref k => exact Nat.lt_of_lt_of_le hv h
  | _ => exact hv
theorem aLr_app {n n' : Nat} {ls : Array Slot} {L : List Value} (x : List Nat) (hn : ad.length + 6 = n) (hle : n ≤ n') (h : aLr G ad n ls L) : aLr G (ad ++ x) n' ls L := by
  obtain ⟨h1, h2, h3, h4⟩ := h
  refine ⟨h1, h2, fun i v hi hv => ?_, fun v hv => aVk_le hle (h4 v hv)⟩
  rw [aUp_app x (by rw [hn]; exact h4 v (List.mem_of_getElem? hi))]
  exact h3 i v hi hv
/-- the listed locals, as the kit's rows want them -/
def aLl (G : aEnv) (ad : List Nat) (L : List Value) : List (Nat × Value) := (List.range L.length).filterMap (fun i => match L[i]? with
  | some v => if v = aNo then none else some (i, aUp G ad v)
  | none => none)
theorem aLl_mem {L : List Value} {q : Nat × Value} : q ∈ aLl G ad L ↔ ∃ v, L[q.1]? = some v ∧ v ≠ aNo ∧ q.2 = aUp G ad v := by
  unfold aLl
  rw [List.mem_filterMap]
  constructor
  · rintro ⟨i, -, hi⟩
    split at hi
    · rename_i v hv
      split at hi
      · cases hi
      · rename_i hne
        cases hi
        exact ⟨v, hv, hne, rfl⟩
    · cases hi
  · rintro ⟨v, h1, h2, h3⟩
    have : q.1 < L.length := (List.getElem?_eq_some_iff.mp h1).1
    refine ⟨q.1, List.mem_range.mpr this, ?_⟩
    rw [h1]
    simp only [if_neg h2]
    rw [← h3]
theorem aLr.has {n : Nat} {ls : Array Slot} {L : List Value} (h : aLr G ad n ls L) : lv_has ls L.length (aLl G ad L) := by
  obtain ⟨h1, h2, h3, -⟩ := h
  refine ⟨h1, h2, fun q hq => ?_⟩
  obtain ⟨v, g1, g2, g3⟩ := aLl_mem.mp hq
  rw [g3]
  exact h3 q.1 v g1 g2
theorem aCut_len (L : List Value) (i : Nat) : (aCut L i).length = L.length := by
  unfold aCut
  split
  · rfl
  · split <;> simp
theorem aCut_get {n : Nat} {L : List Value} {i j : Nat} {v : Value} (hd : ∀ v ∈ L, aVk n v) (h : (aCut L i)[j]? = some v) (hv : v ≠ aNo) : L[j]? = some v ∧ ¬ (j + 1 = i ∧ v.category = 2) := by
  unfold aCut at h
  split at h
  · exact ⟨h, by omega⟩
  · rename_i i'
    split at h
    · rename_i x hx
      by_cases hj : i' = j
      · subst hj
        rw [List.getElem?_set_self (List.getElem?_eq_some_iff.mp hx).1] at h
        cases h
        exact absurd rfl hv
      · rw [List.getElem?_set_ne hj] at h
        exact ⟨h, by omega⟩
    · rename_i hno
      refine ⟨h, fun q => ?_⟩
      have : j = i' := by omega
      subst this
      cases v with
      | long x => exact hno x h
      | double x => exact hd _ (List.mem_of_getElem? h)
      | _ => simp [Value.category] at q
theorem aCut_mem {n : Nat} {L : List Value} {i : Nat} (hd : ∀ v ∈ L, aVk n v) : ∀ v ∈ aCut L i, aVk n v := by
  intro v hv
  unfold aCut at hv
  split at hv
  · exact hd v hv
  · split at hv
    · rcases List.mem_or_eq_of_mem_set hv with h | h
      · exact hd v h
      · subst h; trivial
    · exact hd v hv
theorem aUp_cat (v : Value) : (aUp G ad v).category = v.category := by
  cases v with
  | ref k =>
    unfold aUp
    by_cases h : k = 5
    · simp only [h, if_true]
      cases G.2.2.2.2.1 <;> rfl
    · simp only [h, if_false]; rfl
  | _ => rfl
theorem aSt1_len (L : List Value) (i : Nat) (v : Value) : (aSt1 L i v).length = L.length := by unfold aSt1; rw [List.length_set, aCut_len]
theorem aSt2_len (L : List Value) (i : Nat) (v : Value) : (aSt2 L i v).length = L.length := by unfold aSt2; rw [List.length_set, List.length_set, aCut_len]
theorem aSt1_mem {n : Nat} {L : List Value} {i : Nat} {v : Value} (hd : ∀ v ∈ L, aVk n v) (hv : aVk n v) : ∀ w ∈ aSt1 L i v, aVk n w := by
  intro w hw
  rcases List.mem_or_eq_of_mem_set hw with h | h
  · exact aCut_mem hd w h
  · subst h; exact hv
theorem aSt2_mem {n : Nat} {L : List Value} {i : Nat} {v : Value} (hd : ∀ v ∈ L, aVk n v) (hv : aVk n v) : ∀ w ∈ aSt2 L i v, aVk n w := by
  intro w hw
  rcases List.mem_or_eq_of_mem_set hw with h | h
  · rcases List.mem_or_eq_of_mem_set h with h | h
    · exact aCut_mem hd w h
    · subst h; trivial
  · subst h; exact hv
/-- a local is filled: what AM keeps of it (aNo: nothing) -/
theorem aLr_st1 {n i : Nat} {ls ls' : Array Slot} {L : List Value} {v u : Value} (h : aLr G ad n ls L) (hi : i < L.length) (hv : aVk n v) (hu : v ≠ aNo → u = aUp G ad v) (hl : lv_has ls' L.length ((i, u) :: (aLl G ad L).filter (fun q => !(q.1 == i) && !(q.1 + 1 == i && q.2.category == 2)))) : aLr G ad n ls' (aSt1 L i v) := by
  refine ⟨hl.1.trans (aSt1_len L i v).symm, hl.2.1, fun j w hj hw => ?_, aSt1_mem h.2.2.2 hv⟩
  unfold aSt1 at hj
  by_cases hji : i = j
  · subst hji
    rw [List.getElem?_set_self (by rw [aCut_len]; exact hi)] at hj
    cases hj
    have h1 := hl.2.2 (i, u) List.mem_cons_self
    rw [hu hw] at h1
    exact h1
  · rw [List.getElem?_set_ne hji] at hj
    obtain ⟨g1, g2⟩ := aCut_get h.2.2.2 hj hw
    refine hl.2.2 (j, aUp G ad w) (List.mem_cons_of_mem _ (List.mem_filter.mpr ⟨aLl_mem.mpr ⟨w, g1, hw, rfl⟩, ?_⟩))
    simp only [aUp_cat]
    by_cases hc : j + 1 = i
    · have : ¬ w.category = 2 := fun q => g2 ⟨hc, q⟩
      simp [this, hji, Ne.symm hji]
    · simp [hc, Ne.symm hji]
theorem aLr_st2 {n i : Nat} {ls ls' : Array Slot} {L : List Value} {v : Value} (h : aLr G ad n ls L) (hi : i + 1 < L.length) (hv : aVk n v) (hl : lv_has ls' L.length ((i, aUp G ad v) :: (aLl G ad L).filter (fun q => !(q.1 == i) && (!(q.1 == i + 1) && !(q.1 + 1 == i && q.2.category == 2))))) : aLr G ad n ls' (aSt2 L i v) := by
  refine ⟨hl.1.trans (aSt2_len L i v).symm, hl.2.1, fun j w hj hw => ?_, aSt2_mem h.2.2.2 hv⟩
  unfold aSt2 at hj
  by_cases hji : i = j
  · subst hji
    rw [List.getElem?_set_self (by rw [List.length_set, aCut_len]; omega)] at hj
    cases hj
    exact hl.2.2 (i, aUp G ad v) List.mem_cons_self
  · rw [List.getElem?_set_ne hji] at hj
    by_cases hj2 : i + 1 = j
    · subst hj2
      rw [List.getElem?_set_self (by rw [aCut_len]; exact hi)] at hj
      cases hj
      exact absurd rfl hw
    · rw [List.getElem?_set_ne hj2] at hj
      obtain ⟨g1, g2⟩ := aCut_get h.2.2.2 hj hw
      refine hl.2.2 (j, aUp G ad w) (List.mem_cons_of_mem _ (List.mem_filter.mpr ⟨aLl_mem.mpr ⟨w, g1, hw, rfl⟩, ?_⟩))
      simp only [aUp_cat]
      by_cases hc : j + 1 = i
      · have : ¬ w.category = 2 := fun q => g2 ⟨hc, q⟩
        simp [this, Ne.symm hji, Ne.symm hj2]
      · simp [hc, Ne.symm hji, Ne.symm hj2]
theorem aLr.at {n i : Nat} {ls : Array Slot} {L : List Value} {v : Value} (h : aLr G ad n ls L) (hi : L[i]? = some v) (hv : v ≠ aNo) : ls[i]? = some (.val (aUp G ad v)) := h.2.2.1 i v hi hv
end Snd0

section Snd1
variable {p : Program} {l : Launch} {e : Env} {R : Room} {s : State} {m : MethodId} {args : Array Value} {below : List Frame} {meth : Method} {c : Code} {Q : State → Prop} {G : aEnv} {d k : Nat} {g0 : Nat × Nat} {C : Nat → Nat → List Value → aS → Option aO} {K : Nat → List Value → List Value → aS → Option aO} {o : aO} {len t a b : Nat} {z : Int} {pc : Nat} {L st : List Value} {σ : aS}

theorem as_iconst {n : Int} (X : aFx p R s m args meth c G d k g0 o) (hK : aKok p l e R s m args below meth c Q G k g0 K o) (hd : decode (aNm k).2.1 pc = .ok (.iconst n, len)) (hl : aIl k pc (.iconst n) len t a b z = true) (h : aAct C K d k (.iconst n) len t a b z pc L st σ = some o) : aGo p l e R s m args below meth c Q G k g0 pc L st σ := by
  intro ad H locs ls hI hS hL hv g1 g2 hn
  obtain rfl : len = 1 := Nat.eq_of_beq_eq_true hl
  simp only [aAct] at h
  refine lv_iconst X.1 X.2.1 hd rfl ?_
  exact (hK _ _ _ _ h).1 ad H locs ls hI hS hL (aVs.c trivial hv) g1 g2 hn
theorem as_bipush {n : Int} (X : aFx p R s m args meth c G d k g0 o) (hK : aKok p l e R s m args below meth c Q G k g0 K o) (hd : decode (aNm k).2.1 pc = .ok (.bipush n, len)) (hl : aIl k pc (.bipush n) len t a b z = true) (h : aAct C K d k (.bipush n) len t a b z pc L st σ = some o) : aGo p l e R s m args below meth c Q G k g0 pc L st σ := by
  intro ad H locs ls hI hS hL hv g1 g2 hn
  obtain rfl : len = 2 := Nat.eq_of_beq_eq_true hl
  simp only [aAct] at h
  refine lv_bipush X.1 X.2.1 hd rfl ?_
  exact (hK _ _ _ _ h).1 ad H locs ls hI hS hL (aVs.c trivial hv) g1 g2 hn
theorem as_sipush {n : Int} (X : aFx p R s m args meth c G d k g0 o) (hK : aKok p l e R s m args below meth c Q G k g0 K o) (hd : decode (aNm k).2.1 pc = .ok (.sipush n, len)) (hl : aIl k pc (.sipush n) len t a b z = true) (h : aAct C K d k (.sipush n) len t a b z pc L st σ = some o) : aGo p l e R s m args below meth c Q G k g0 pc L st σ := by
  intro ad H locs ls hI hS hL hv g1 g2 hn
  obtain rfl : len = 3 := Nat.eq_of_beq_eq_true hl
  simp only [aAct] at h
  refine lv_sipush X.1 X.2.1 hd rfl ?_
  exact (hK _ _ _ _ h).1 ad H locs ls hI hS hL (aVs.c trivial hv) g1 g2 hn
theorem as_lconst {n : Fin 2} (X : aFx p R s m args meth c G d k g0 o) (hK : aKok p l e R s m args below meth c Q G k g0 K o) (hd : decode (aNm k).2.1 pc = .ok (.lconst n, len)) (hl : aIl k pc (.lconst n) len t a b z = true) (h : aAct C K d k (.lconst n) len t a b z pc L st σ = some o) : aGo p l e R s m args below meth c Q G k g0 pc L st σ := by
  intro ad H locs ls hI hS hL hv g1 g2 hn
  obtain rfl : len = 1 := Nat.eq_of_beq_eq_true hl
  simp only [aAct] at h
  refine lv_lconst X.1 X.2.1 hd rfl ?_
  exact (hK _ _ _ _ h).1 ad H locs ls hI hS hL (aVs.c trivial hv) g1 g2 hn
theorem as_iload_n {j : Fin 4} (X : aFx p R s m args meth c G d k g0 o) (hK : aKok p l e R s m args below meth c Q G k g0 K o) (hd : decode (aNm k).2.1 pc = .ok (.iload_n j, len)) (hl : aIl k pc (.iload_n j) len t a b z = true) (h : aAct C K d k (.iload_n j) len t a b z pc L st σ = some o) : aGo p l e R s m args below meth c Q G k g0 pc L st σ := by
  intro ad H locs ls hI hS hL hv g1 g2 hn
  obtain rfl : len = 1 := Nat.eq_of_beq_eq_true hl
  simp only [aAct] at h
  split at h
  · rename_i x hx
    refine lv_iload_n X.1 X.2.1 hd rfl (hL.at hx (fun q => by cases q)) ?_
    exact (hK _ _ _ _ h).1 ad H locs ls hI hS hL (aVs.c trivial hv) g1 g2 hn
  · cases h
theorem as_iload {j : Nat} (X : aFx p R s m args meth c G d k g0 o) (hK : aKok p l e R s m args below meth c Q G k g0 K o) (hd : decode (aNm k).2.1 pc = .ok (.iload j, len)) (hl : aIl k pc (.iload j) len t a b z = true) (h : aAct C K d k (.iload j) len t a b z pc L st σ = some o) : aGo p l e R s m args below meth c Q G k g0 pc L st σ := by
  intro ad H locs ls hI hS hL hv g1 g2 hn
  obtain rfl : len = 2 := Nat.eq_of_beq_eq_true hl
  simp only [aAct] at h
  split at h
  · rename_i x hx
    refine lv_iload X.1 X.2.1 hd (hL.at hx (fun q => by cases q)) ?_
    exact (hK _ _ _ _ h).1 ad H locs ls hI hS hL (aVs.c trivial hv) g1 g2 hn
  · cases h
theorem as_lload_n {j : Fin 4} (X : aFx p R s m args meth c G d k g0 o) (hK : aKok p l e R s m args below meth c Q G k g0 K o) (hd : decode (aNm k).2.1 pc = .ok (.lload_n j, len)) (hl : aIl k pc (.lload_n j) len t a b z = true) (h : aAct C K d k (.lload_n j) len t a b z pc L st σ = some o) : aGo p l e R s m args below meth c Q G k g0 pc L st σ := by
  intro ad H locs ls hI hS hL hv g1 g2 hn
  obtain rfl : len = 1 := Nat.eq_of_beq_eq_true hl
  simp only [aAct] at h
  split at h
  · rename_i x hx
    refine lv_lload_n X.1 X.2.1 hd rfl (hL.at hx (fun q => by cases q)) ?_
    exact (hK _ _ _ _ h).1 ad H locs ls hI hS hL (aVs.c trivial hv) g1 g2 hn
  · cases h
theorem as_lload {j : Nat} (X : aFx p R s m args meth c G d k g0 o) (hK : aKok p l e R s m args below meth c Q G k g0 K o) (hd : decode (aNm k).2.1 pc = .ok (.lload j, len)) (hl : aIl k pc (.lload j) len t a b z = true) (h : aAct C K d k (.lload j) len t a b z pc L st σ = some o) : aGo p l e R s m args below meth c Q G k g0 pc L st σ := by
  intro ad H locs ls hI hS hL hv g1 g2 hn
  obtain rfl : len = 2 := Nat.eq_of_beq_eq_true hl
  simp only [aAct] at h
  split at h
  · rename_i x hx
    refine lv_lload X.1 X.2.1 hd (hL.at hx (fun q => by cases q)) ?_
    exact (hK _ _ _ _ h).1 ad H locs ls hI hS hL (aVs.c trivial hv) g1 g2 hn
  · cases h
theorem as_aload_n {j : Fin 4} (X : aFx p R s m args meth c G d k g0 o) (hK : aKok p l e R s m args below meth c Q G k g0 K o) (hd : decode (aNm k).2.1 pc = .ok (.aload_n j, len)) (hl : aIl k pc (.aload_n j) len t a b z = true) (h : aAct C K d k (.aload_n j) len t a b z pc L st σ = some o) : aGo p l e R s m args below meth c Q G k g0 pc L st σ := by
  intro ad H locs ls hI hS hL hv g1 g2 hn
  obtain rfl : len = 1 := Nat.eq_of_beq_eq_true hl
  simp only [aAct] at h
  split at h
  · rename_i x hx
    have hx2 := hL.at hx (fun q => by cases q)
    have hvx : aVk σ.1.1 (.ref x) := hL.2.2.2 _ (List.mem_of_getElem? hx)
    have kk := (hK _ _ _ _ h).1 ad H locs ls hI hS hL (aVs.c hvx hv) g1 g2 hn
    by_cases h5 : x = 5
    · have e5 : aUp G ad (.ref x) = va_rf G.2.2.2.2.1 := by rw [aUp_at, if_pos h5]
      rw [List.map_cons] at kk
      rw [e5] at kk hx2
      cases hf : G.2.2.2.2.1 with
      | none => rw [hf] at kk hx2; exact lv_aload_nN X.1 X.2.1 hd rfl hx2 kk
      | some q => rw [hf] at kk hx2; exact lv_aload_n X.1 X.2.1 hd rfl hx2 kk
    · have e5 : aUp G ad (.ref x) = .ref (aAdr G ad x) := by rw [aUp_at, if_neg h5]
      rw [List.map_cons] at kk
      rw [e5] at kk hx2
      exact lv_aload_n X.1 X.2.1 hd rfl hx2 kk
  · cases h
theorem as_aload {j : Nat} (X : aFx p R s m args meth c G d k g0 o) (hK : aKok p l e R s m args below meth c Q G k g0 K o) (hd : decode (aNm k).2.1 pc = .ok (.aload j, len)) (hl : aIl k pc (.aload j) len t a b z = true) (h : aAct C K d k (.aload j) len t a b z pc L st σ = some o) : aGo p l e R s m args below meth c Q G k g0 pc L st σ := by
  intro ad H locs ls hI hS hL hv g1 g2 hn
  obtain rfl : len = 2 := Nat.eq_of_beq_eq_true hl
  simp only [aAct] at h
  split at h
  · rename_i x hx
    have hx2 := hL.at hx (fun q => by cases q)
    have hvx : aVk σ.1.1 (.ref x) := hL.2.2.2 _ (List.mem_of_getElem? hx)
    have kk := (hK _ _ _ _ h).1 ad H locs ls hI hS hL (aVs.c hvx hv) g1 g2 hn
    by_cases h5 : x = 5
    · have e5 : aUp G ad (.ref x) = va_rf G.2.2.2.2.1 := by rw [aUp_at, if_pos h5]
      rw [List.map_cons] at kk
      rw [e5] at kk hx2
      cases hf : G.2.2.2.2.1 with
      | none => rw [hf] at kk hx2; exact lv_aloadN X.1 X.2.1 hd hx2 kk
      | some q => rw [hf] at kk hx2; exact lv_aload X.1 X.2.1 hd hx2 kk
    · have e5 : aUp G ad (.ref x) = .ref (aAdr G ad x) := by rw [aUp_at, if_neg h5]
      rw [List.map_cons] at kk
      rw [e5] at kk hx2
      exact lv_aload X.1 X.2.1 hd hx2 kk
  · cases h
theorem as_istore_n {j : Fin 4} (X : aFx p R s m args meth c G d k g0 o) (hK : aKok p l e R s m args below meth c Q G k g0 K o) (hd : decode (aNm k).2.1 pc = .ok (.istore_n j, len)) (hl : aIl k pc (.istore_n j) len t a b z = true) (h : aAct C K d k (.istore_n j) len t a b z pc L st σ = some o) : aGo p l e R s m args below meth c Q G k g0 pc L st σ := by
  intro ad H locs ls hI hS hL hv g1 g2 hn
  obtain rfl : len = 1 := Nat.eq_of_beq_eq_true hl
  simp only [aAct] at h
  split at h
  · rename_i x r
    split at h
    · rename_i hj
      exact lv_istore_n X.1 X.2.1 hd rfl hL.has hj rfl (fun ls' hl' => (hK _ _ _ _ h).1 ad H locs ls' hI hS (aLr_st1 hL hj trivial (fun _ => rfl) hl') hv.t g1 g2 (by rw [aSt1_len]; exact hn))
    · cases h
  · cases h
theorem as_istore {j : Nat} (X : aFx p R s m args meth c G d k g0 o) (hK : aKok p l e R s m args below meth c Q G k g0 K o) (hd : decode (aNm k).2.1 pc = .ok (.istore j, len)) (hl : aIl k pc (.istore j) len t a b z = true) (h : aAct C K d k (.istore j) len t a b z pc L st σ = some o) : aGo p l e R s m args below meth c Q G k g0 pc L st σ := by
  intro ad H locs ls hI hS hL hv g1 g2 hn
  obtain rfl : len = 2 := Nat.eq_of_beq_eq_true hl
  simp only [aAct] at h
  split at h
  · rename_i x r
    split at h
    · rename_i hj
      exact lv_istore X.1 X.2.1 hd hL.has hj rfl (fun ls' hl' => (hK _ _ _ _ h).1 ad H locs ls' hI hS (aLr_st1 hL hj trivial (fun _ => rfl) hl') hv.t g1 g2 (by rw [aSt1_len]; exact hn))
    · cases h
  · cases h
theorem as_lstore_n {j : Fin 4} (X : aFx p R s m args meth c G d k g0 o) (hK : aKok p l e R s m args below meth c Q G k g0 K o) (hd : decode (aNm k).2.1 pc = .ok (.lstore_n j, len)) (hl : aIl k pc (.lstore_n j) len t a b z = true) (h : aAct C K d k (.lstore_n j) len t a b z pc L st σ = some o) : aGo p l e R s m args below meth c Q G k g0 pc L st σ := by
  intro ad H locs ls hI hS hL hv g1 g2 hn
  obtain rfl : len = 1 := Nat.eq_of_beq_eq_true hl
  simp only [aAct] at h
  split at h
  · rename_i x r
    split at h
    · rename_i hj
      exact lv_lstore_n X.1 X.2.1 hd rfl hL.has hj rfl (fun ls' hl' => (hK _ _ _ _ h).1 ad H locs ls' hI hS (aLr_st2 (v := .long x) hL hj trivial hl') hv.t g1 g2 (by rw [aSt2_len]; exact hn))
    · cases h
  · cases h
theorem as_lstore {j : Nat} (X : aFx p R s m args meth c G d k g0 o) (hK : aKok p l e R s m args below meth c Q G k g0 K o) (hd : decode (aNm k).2.1 pc = .ok (.lstore j, len)) (hl : aIl k pc (.lstore j) len t a b z = true) (h : aAct C K d k (.lstore j) len t a b z pc L st σ = some o) : aGo p l e R s m args below meth c Q G k g0 pc L st σ := by
  intro ad H locs ls hI hS hL hv g1 g2 hn
  obtain rfl : len = 2 := Nat.eq_of_beq_eq_true hl
  simp only [aAct] at h
  split at h
  · rename_i x r
    split at h
    · rename_i hj
      exact lv_lstore X.1 X.2.1 hd hL.has hj rfl (fun ls' hl' => (hK _ _ _ _ h).1 ad H locs ls' hI hS (aLr_st2 (v := .long x) hL hj trivial hl') hv.t g1 g2 (by rw [aSt2_len]; exact hn))
    · cases h
  · cases h
theorem as_astore_n {j : Fin 4} (X : aFx p R s m args meth c G d k g0 o) (hK : aKok p l e R s m args below meth c Q G k g0 K o) (hd : decode (aNm k).2.1 pc = .ok (.astore_n j, len)) (hl : aIl k pc (.astore_n j) len t a b z = true) (h : aAct C K d k (.astore_n j) len t a b z pc L st σ = some o) : aGo p l e R s m args below meth c Q G k g0 pc L st σ := by
  intro ad H locs ls hI hS hL hv g1 g2 hn
  obtain rfl : len = 1 := Nat.eq_of_beq_eq_true hl
  simp only [aAct] at h
  split at h
  · rename_i x r
    split at h
    · rename_i hj
      have kk : ∀ u, u = aUp G ad (.ref x) → ∀ ls', lv_has ls' L.length (((j : Nat), u) :: (aLl G ad L).filter (fun q => !(q.1 == (j : Nat)) && !(q.1 + 1 == (j : Nat) && q.2.category == 2))) → W p l e R s m args below meth c H locs (σ.1.2.1 - g0.1) (σ.1.2.2 - g0.2) Q (F0 m (pc + 1) ls' (r.map (aUp G ad))) :=
        fun u hu ls' hl' => (hK _ _ _ _ h).1 ad H locs ls' hI hS (aLr_st1 hL hj hv.h (fun _ => hu) hl') hv.t g1 g2 (by rw [aSt1_len]; exact hn)
      rw [List.map_cons]
      by_cases h5 : x = 5
      · have e5 : aUp G ad (.ref x) = va_rf G.2.2.2.2.1 := by rw [aUp_at, if_pos h5]
        rw [e5] at kk ⊢
        cases hf : G.2.2.2.2.1 with
        | none => rw [hf] at kk; exact lv_astore_nN X.1 X.2.1 hd rfl hL.has hj rfl (kk _ rfl)
        | some q => rw [hf] at kk; exact lv_astore_n X.1 X.2.1 hd rfl hL.has hj rfl (kk _ rfl)
      · have e5 : aUp G ad (.ref x) = .ref (aAdr G ad x) := by rw [aUp_at, if_neg h5]
        rw [e5] at kk ⊢
        exact lv_astore_n X.1 X.2.1 hd rfl hL.has hj rfl (kk _ rfl)
    · cases h
  · cases h
theorem as_astore {j : Nat} (X : aFx p R s m args meth c G d k g0 o) (hK : aKok p l e R s m args below meth c Q G k g0 K o) (hd : decode (aNm k).2.1 pc = .ok (.astore j, len)) (hl : aIl k pc (.astore j) len t a b z = true) (h : aAct C K d k (.astore j) len t a b z pc L st σ = some o) : aGo p l e R s m args below meth c Q G k g0 pc L st σ := by
  intro ad H locs ls hI hS hL hv g1 g2 hn
  obtain rfl : len = 2 := Nat.eq_of_beq_eq_true hl
  simp only [aAct] at h
  split at h
  · rename_i x r
    split at h
    · rename_i hj
      have kk : ∀ u, u = aUp G ad (.ref x) → ∀ ls', lv_has ls' L.length ((j, u) :: (aLl G ad L).filter (fun q => !(q.1 == j) && !(q.1 + 1 == j && q.2.category == 2))) → W p l e R s m args below meth c H locs (σ.1.2.1 - g0.1) (σ.1.2.2 - g0.2) Q (F0 m (pc + 2) ls' (r.map (aUp G ad))) :=
        fun u hu ls' hl' => (hK _ _ _ _ h).1 ad H locs ls' hI hS (aLr_st1 hL hj hv.h (fun _ => hu) hl') hv.t g1 g2 (by rw [aSt1_len]; exact hn)
      rw [List.map_cons]
      by_cases h5 : x = 5
      · have e5 : aUp G ad (.ref x) = va_rf G.2.2.2.2.1 := by rw [aUp_at, if_pos h5]
        rw [e5] at kk ⊢
        cases hf : G.2.2.2.2.1 with
        | none => rw [hf] at kk; exact lv_astoreN X.1 X.2.1 hd hL.has hj rfl (kk _ rfl)
        | some q => rw [hf] at kk; exact lv_astore X.1 X.2.1 hd hL.has hj rfl (kk _ rfl)
      · have e5 : aUp G ad (.ref x) = .ref (aAdr G ad x) := by rw [aUp_at, if_neg h5]
        rw [e5] at kk ⊢
        exact lv_astore X.1 X.2.1 hd hL.has hj rfl (kk _ rfl)
    · cases h
  · cases h
theorem as_iinc {j : Nat} {n : Int} (X : aFx p R s m args meth c G d k g0 o) (hK : aKok p l e R s m args below meth c Q G k g0 K o) (hd : decode (aNm k).2.1 pc = .ok (.iinc j n, len)) (hl : aIl k pc (.iinc j n) len t a b z = true) (h : aAct C K d k (.iinc j n) len t a b z pc L st σ = some o) : aGo p l e R s m args below meth c Q G k g0 pc L st σ := by
  intro ad H locs ls hI hS hL hv g1 g2 hn
  obtain rfl : len = 3 := Nat.eq_of_beq_eq_true hl
  simp only [aAct] at h
  split at h
  · rename_i x hx
    have hj : j < L.length := (List.getElem?_eq_some_iff.mp hx).1
    obtain ⟨q, hq⟩ := List.getElem?_of_mem (aLl_mem (G := G) (ad := ad) (q := (j, .int x)).mpr ⟨_, hx, (fun q => by cases q), rfl⟩)
    exact lv_iinc X.1 X.2.1 hd hL.has hq rfl hj rfl (fun ls' hl' => (hK _ _ _ _ h).1 ad H locs ls' hI hS (aLr_st1 hL hj trivial (fun _ => rfl) hl') hv g1 g2 (by rw [aSt1_len]; exact hn))
  · cases h
theorem as_iadd  (X : aFx p R s m args meth c G d k g0 o) (hK : aKok p l e R s m args below meth c Q G k g0 K o) (hd : decode (aNm k).2.1 pc = .ok (.iadd, len)) (hl : aIl k pc (.iadd) len t a b z = true) (h : aAct C K d k (.iadd) len t a b z pc L st σ = some o) : aGo p l e R s m args below meth c Q G k g0 pc L st σ := by
  intro ad H locs ls hI hS hL hv g1 g2 hn
  obtain rfl : len = 1 := Nat.eq_of_beq_eq_true hl
  simp only [aAct] at h
  split at h
  · rename_i y x r
    refine lv_iadd X.1 X.2.1 hd ?_
    exact (hK _ _ _ _ h).1 ad H locs ls hI hS hL (aVs.c trivial hv.t.t) g1 g2 hn
  · cases h
theorem as_isub  (X : aFx p R s m args meth c G d k g0 o) (hK : aKok p l e R s m args below meth c Q G k g0 K o) (hd : decode (aNm k).2.1 pc = .ok (.isub, len)) (hl : aIl k pc (.isub) len t a b z = true) (h : aAct C K d k (.isub) len t a b z pc L st σ = some o) : aGo p l e R s m args below meth c Q G k g0 pc L st σ := by
  intro ad H locs ls hI hS hL hv g1 g2 hn
  obtain rfl : len = 1 := Nat.eq_of_beq_eq_true hl
  simp only [aAct] at h
  split at h
  · rename_i y x r
    refine lv_isub X.1 X.2.1 hd ?_
    exact (hK _ _ _ _ h).1 ad H locs ls hI hS hL (aVs.c trivial hv.t.t) g1 g2 hn
  · cases h
theorem as_imul  (X : aFx p R s m args meth c G d k g0 o) (hK : aKok p l e R s m args below meth c Q G k g0 K o) (hd : decode (aNm k).2.1 pc = .ok (.imul, len)) (hl : aIl k pc (.imul) len t a b z = true) (h : aAct C K d k (.imul) len t a b z pc L st σ = some o) : aGo p l e R s m args below meth c Q G k g0 pc L st σ := by
  intro ad H locs ls hI hS hL hv g1 g2 hn
  obtain rfl : len = 1 := Nat.eq_of_beq_eq_true hl
  simp only [aAct] at h
  split at h
  · rename_i y x r
    refine lv_imul X.1 X.2.1 hd ?_
    exact (hK _ _ _ _ h).1 ad H locs ls hI hS hL (aVs.c trivial hv.t.t) g1 g2 hn
  · cases h
theorem as_iand  (X : aFx p R s m args meth c G d k g0 o) (hK : aKok p l e R s m args below meth c Q G k g0 K o) (hd : decode (aNm k).2.1 pc = .ok (.iand, len)) (hl : aIl k pc (.iand) len t a b z = true) (h : aAct C K d k (.iand) len t a b z pc L st σ = some o) : aGo p l e R s m args below meth c Q G k g0 pc L st σ := by
  intro ad H locs ls hI hS hL hv g1 g2 hn
  obtain rfl : len = 1 := Nat.eq_of_beq_eq_true hl
  simp only [aAct] at h
  split at h
  · rename_i y x r
    refine lv_iand X.1 X.2.1 hd ?_
    exact (hK _ _ _ _ h).1 ad H locs ls hI hS hL (aVs.c trivial hv.t.t) g1 g2 hn
  · cases h
theorem as_ior  (X : aFx p R s m args meth c G d k g0 o) (hK : aKok p l e R s m args below meth c Q G k g0 K o) (hd : decode (aNm k).2.1 pc = .ok (.ior, len)) (hl : aIl k pc (.ior) len t a b z = true) (h : aAct C K d k (.ior) len t a b z pc L st σ = some o) : aGo p l e R s m args below meth c Q G k g0 pc L st σ := by
  intro ad H locs ls hI hS hL hv g1 g2 hn
  obtain rfl : len = 1 := Nat.eq_of_beq_eq_true hl
  simp only [aAct] at h
  split at h
  · rename_i y x r
    refine lv_ior X.1 X.2.1 hd ?_
    exact (hK _ _ _ _ h).1 ad H locs ls hI hS hL (aVs.c trivial hv.t.t) g1 g2 hn
  · cases h
theorem as_ixor  (X : aFx p R s m args meth c G d k g0 o) (hK : aKok p l e R s m args below meth c Q G k g0 K o) (hd : decode (aNm k).2.1 pc = .ok (.ixor, len)) (hl : aIl k pc (.ixor) len t a b z = true) (h : aAct C K d k (.ixor) len t a b z pc L st σ = some o) : aGo p l e R s m args below meth c Q G k g0 pc L st σ := by
  intro ad H locs ls hI hS hL hv g1 g2 hn
  obtain rfl : len = 1 := Nat.eq_of_beq_eq_true hl
  simp only [aAct] at h
  split at h
  · rename_i y x r
    refine lv_ixor X.1 X.2.1 hd ?_
    exact (hK _ _ _ _ h).1 ad H locs ls hI hS hL (aVs.c trivial hv.t.t) g1 g2 hn
  · cases h
theorem as_ishl  (X : aFx p R s m args meth c G d k g0 o) (hK : aKok p l e R s m args below meth c Q G k g0 K o) (hd : decode (aNm k).2.1 pc = .ok (.ishl, len)) (hl : aIl k pc (.ishl) len t a b z = true) (h : aAct C K d k (.ishl) len t a b z pc L st σ = some o) : aGo p l e R s m args below meth c Q G k g0 pc L st σ := by
  intro ad H locs ls hI hS hL hv g1 g2 hn
  obtain rfl : len = 1 := Nat.eq_of_beq_eq_true hl
  simp only [aAct] at h
  split at h
  · rename_i y x r
    refine lv_ishl X.1 X.2.1 hd ?_
    exact (hK _ _ _ _ h).1 ad H locs ls hI hS hL (aVs.c trivial hv.t.t) g1 g2 hn
  · cases h
theorem as_ishr  (X : aFx p R s m args meth c G d k g0 o) (hK : aKok p l e R s m args below meth c Q G k g0 K o) (hd : decode (aNm k).2.1 pc = .ok (.ishr, len)) (hl : aIl k pc (.ishr) len t a b z = true) (h : aAct C K d k (.ishr) len t a b z pc L st σ = some o) : aGo p l e R s m args below meth c Q G k g0 pc L st σ := by
  intro ad H locs ls hI hS hL hv g1 g2 hn
  obtain rfl : len = 1 := Nat.eq_of_beq_eq_true hl
  simp only [aAct] at h
  split at h
  · rename_i y x r
    refine lv_ishr X.1 X.2.1 hd ?_
    exact (hK _ _ _ _ h).1 ad H locs ls hI hS hL (aVs.c trivial hv.t.t) g1 g2 hn
  · cases h
theorem as_iushr  (X : aFx p R s m args meth c G d k g0 o) (hK : aKok p l e R s m args below meth c Q G k g0 K o) (hd : decode (aNm k).2.1 pc = .ok (.iushr, len)) (hl : aIl k pc (.iushr) len t a b z = true) (h : aAct C K d k (.iushr) len t a b z pc L st σ = some o) : aGo p l e R s m args below meth c Q G k g0 pc L st σ := by
  intro ad H locs ls hI hS hL hv g1 g2 hn
  obtain rfl : len = 1 := Nat.eq_of_beq_eq_true hl
  simp only [aAct] at h
  split at h
  · rename_i y x r
    refine lv_iushr X.1 X.2.1 hd rfl ?_
    exact (hK _ _ _ _ h).1 ad H locs ls hI hS hL (aVs.c trivial hv.t.t) g1 g2 hn
  · cases h
theorem as_idiv  (X : aFx p R s m args meth c G d k g0 o) (hK : aKok p l e R s m args below meth c Q G k g0 K o) (hd : decode (aNm k).2.1 pc = .ok (.idiv, len)) (hl : aIl k pc (.idiv) len t a b z = true) (h : aAct C K d k (.idiv) len t a b z pc L st σ = some o) : aGo p l e R s m args below meth c Q G k g0 pc L st σ := by
  intro ad H locs ls hI hS hL hv g1 g2 hn
  obtain rfl : len = 1 := Nat.eq_of_beq_eq_true hl
  simp only [aAct] at h
  split at h
  · rename_i y x r
    split at h
    · cases h
    · rename_i hne
      refine lv_idiv X.1 X.2.1 hd hne ?_
      exact (hK _ _ _ _ h).1 ad H locs ls hI hS hL (aVs.c trivial hv.t.t) g1 g2 hn
  · cases h
theorem as_irem  (X : aFx p R s m args meth c G d k g0 o) (hK : aKok p l e R s m args below meth c Q G k g0 K o) (hd : decode (aNm k).2.1 pc = .ok (.irem, len)) (hl : aIl k pc (.irem) len t a b z = true) (h : aAct C K d k (.irem) len t a b z pc L st σ = some o) : aGo p l e R s m args below meth c Q G k g0 pc L st σ := by
  intro ad H locs ls hI hS hL hv g1 g2 hn
  obtain rfl : len = 1 := Nat.eq_of_beq_eq_true hl
  simp only [aAct] at h
  split at h
  · rename_i y x r
    split at h
    · cases h
    · rename_i hne
      refine lv_irem X.1 X.2.1 hd hne ?_
      exact (hK _ _ _ _ h).1 ad H locs ls hI hS hL (aVs.c trivial hv.t.t) g1 g2 hn
  · cases h
theorem as_ldiv  (X : aFx p R s m args meth c G d k g0 o) (hK : aKok p l e R s m args below meth c Q G k g0 K o) (hd : decode (aNm k).2.1 pc = .ok (.ldiv, len)) (hl : aIl k pc (.ldiv) len t a b z = true) (h : aAct C K d k (.ldiv) len t a b z pc L st σ = some o) : aGo p l e R s m args below meth c Q G k g0 pc L st σ := by
  intro ad H locs ls hI hS hL hv g1 g2 hn
  obtain rfl : len = 1 := Nat.eq_of_beq_eq_true hl
  simp only [aAct] at h
  split at h
  · rename_i y x r
    split at h
    · cases h
    · rename_i hne
      refine lv_ldiv X.1 X.2.1 hd hne ?_
      exact (hK _ _ _ _ h).1 ad H locs ls hI hS hL (aVs.c trivial hv.t.t) g1 g2 hn
  · cases h
theorem as_lrem  (X : aFx p R s m args meth c G d k g0 o) (hK : aKok p l e R s m args below meth c Q G k g0 K o) (hd : decode (aNm k).2.1 pc = .ok (.lrem, len)) (hl : aIl k pc (.lrem) len t a b z = true) (h : aAct C K d k (.lrem) len t a b z pc L st σ = some o) : aGo p l e R s m args below meth c Q G k g0 pc L st σ := by
  intro ad H locs ls hI hS hL hv g1 g2 hn
  obtain rfl : len = 1 := Nat.eq_of_beq_eq_true hl
  simp only [aAct] at h
  split at h
  · rename_i y x r
    split at h
    · cases h
    · rename_i hne
      refine lv_lrem X.1 X.2.1 hd hne ?_
      exact (hK _ _ _ _ h).1 ad H locs ls hI hS hL (aVs.c trivial hv.t.t) g1 g2 hn
  · cases h
theorem as_ladd  (X : aFx p R s m args meth c G d k g0 o) (hK : aKok p l e R s m args below meth c Q G k g0 K o) (hd : decode (aNm k).2.1 pc = .ok (.ladd, len)) (hl : aIl k pc (.ladd) len t a b z = true) (h : aAct C K d k (.ladd) len t a b z pc L st σ = some o) : aGo p l e R s m args below meth c Q G k g0 pc L st σ := by
  intro ad H locs ls hI hS hL hv g1 g2 hn
  obtain rfl : len = 1 := Nat.eq_of_beq_eq_true hl
  simp only [aAct] at h
  split at h
  · rename_i y x r
    refine lv_ladd X.1 X.2.1 hd ?_
    exact (hK _ _ _ _ h).1 ad H locs ls hI hS hL (aVs.c trivial hv.t.t) g1 g2 hn
  · cases h
theorem as_lmul  (X : aFx p R s m args meth c G d k g0 o) (hK : aKok p l e R s m args below meth c Q G k g0 K o) (hd : decode (aNm k).2.1 pc = .ok (.lmul, len)) (hl : aIl k pc (.lmul) len t a b z = true) (h : aAct C K d k (.lmul) len t a b z pc L st σ = some o) : aGo p l e R s m args below meth c Q G k g0 pc L st σ := by
  intro ad H locs ls hI hS hL hv g1 g2 hn
  obtain rfl : len = 1 := Nat.eq_of_beq_eq_true hl
  simp only [aAct] at h
  split at h
  · rename_i y x r
    refine lv_lmul X.1 X.2.1 hd ?_
    exact (hK _ _ _ _ h).1 ad H locs ls hI hS hL (aVs.c trivial hv.t.t) g1 g2 hn
  · cases h
theorem as_lcmp  (X : aFx p R s m args meth c G d k g0 o) (hK : aKok p l e R s m args below meth c Q G k g0 K o) (hd : decode (aNm k).2.1 pc = .ok (.lcmp, len)) (hl : aIl k pc (.lcmp) len t a b z = true) (h : aAct C K d k (.lcmp) len t a b z pc L st σ = some o) : aGo p l e R s m args below meth c Q G k g0 pc L st σ := by
  intro ad H locs ls hI hS hL hv g1 g2 hn
  obtain rfl : len = 1 := Nat.eq_of_beq_eq_true hl
  simp only [aAct] at h
  split at h
  · rename_i y x r
    refine W.lcmp X.1 X.2.1 hd ?_
    exact (hK _ _ _ _ h).1 ad H locs ls hI hS hL (aVs.c trivial hv.t.t) g1 g2 hn
  · cases h
theorem as_ineg  (X : aFx p R s m args meth c G d k g0 o) (hK : aKok p l e R s m args below meth c Q G k g0 K o) (hd : decode (aNm k).2.1 pc = .ok (.ineg, len)) (hl : aIl k pc (.ineg) len t a b z = true) (h : aAct C K d k (.ineg) len t a b z pc L st σ = some o) : aGo p l e R s m args below meth c Q G k g0 pc L st σ := by
  intro ad H locs ls hI hS hL hv g1 g2 hn
  obtain rfl : len = 1 := Nat.eq_of_beq_eq_true hl
  simp only [aAct] at h
  split at h
  · rename_i x r
    refine lv_ineg X.1 X.2.1 hd ?_
    exact (hK _ _ _ _ h).1 ad H locs ls hI hS hL (aVs.c trivial hv.t) g1 g2 hn
  · cases h
theorem as_i2l  (X : aFx p R s m args meth c G d k g0 o) (hK : aKok p l e R s m args below meth c Q G k g0 K o) (hd : decode (aNm k).2.1 pc = .ok (.i2l, len)) (hl : aIl k pc (.i2l) len t a b z = true) (h : aAct C K d k (.i2l) len t a b z pc L st σ = some o) : aGo p l e R s m args below meth c Q G k g0 pc L st σ := by
  intro ad H locs ls hI hS hL hv g1 g2 hn
  obtain rfl : len = 1 := Nat.eq_of_beq_eq_true hl
  simp only [aAct] at h
  split at h
  · rename_i x r
    refine lv_i2l X.1 X.2.1 hd rfl ?_
    exact (hK _ _ _ _ h).1 ad H locs ls hI hS hL (aVs.c trivial hv.t) g1 g2 hn
  · cases h
theorem as_l2i  (X : aFx p R s m args meth c G d k g0 o) (hK : aKok p l e R s m args below meth c Q G k g0 K o) (hd : decode (aNm k).2.1 pc = .ok (.l2i, len)) (hl : aIl k pc (.l2i) len t a b z = true) (h : aAct C K d k (.l2i) len t a b z pc L st σ = some o) : aGo p l e R s m args below meth c Q G k g0 pc L st σ := by
  intro ad H locs ls hI hS hL hv g1 g2 hn
  obtain rfl : len = 1 := Nat.eq_of_beq_eq_true hl
  simp only [aAct] at h
  split at h
  · rename_i x r
    refine lv_l2i X.1 X.2.1 hd rfl ?_
    exact (hK _ _ _ _ h).1 ad H locs ls hI hS hL (aVs.c trivial hv.t) g1 g2 hn
  · cases h
theorem as_i2b  (X : aFx p R s m args meth c G d k g0 o) (hK : aKok p l e R s m args below meth c Q G k g0 K o) (hd : decode (aNm k).2.1 pc = .ok (.i2b, len)) (hl : aIl k pc (.i2b) len t a b z = true) (h : aAct C K d k (.i2b) len t a b z pc L st σ = some o) : aGo p l e R s m args below meth c Q G k g0 pc L st σ := by
  intro ad H locs ls hI hS hL hv g1 g2 hn
  obtain rfl : len = 1 := Nat.eq_of_beq_eq_true hl
  simp only [aAct] at h
  split at h
  · rename_i x r
    refine lv_i2b X.1 X.2.1 hd rfl ?_
    exact (hK _ _ _ _ h).1 ad H locs ls hI hS hL (aVs.c trivial hv.t) g1 g2 hn
  · cases h
theorem as_i2s  (X : aFx p R s m args meth c G d k g0 o) (hK : aKok p l e R s m args below meth c Q G k g0 K o) (hd : decode (aNm k).2.1 pc = .ok (.i2s, len)) (hl : aIl k pc (.i2s) len t a b z = true) (h : aAct C K d k (.i2s) len t a b z pc L st σ = some o) : aGo p l e R s m args below meth c Q G k g0 pc L st σ := by
  intro ad H locs ls hI hS hL hv g1 g2 hn
  obtain rfl : len = 1 := Nat.eq_of_beq_eq_true hl
  simp only [aAct] at h
  split at h
  · rename_i x r
    refine lv_i2s X.1 X.2.1 hd rfl ?_
    exact (hK _ _ _ _ h).1 ad H locs ls hI hS hL (aVs.c trivial hv.t) g1 g2 hn
  · cases h
theorem as_i2c  (X : aFx p R s m args meth c G d k g0 o) (hK : aKok p l e R s m args below meth c Q G k g0 K o) (hd : decode (aNm k).2.1 pc = .ok (.i2c, len)) (hl : aIl k pc (.i2c) len t a b z = true) (h : aAct C K d k (.i2c) len t a b z pc L st σ = some o) : aGo p l e R s m args below meth c Q G k g0 pc L st σ := by
  intro ad H locs ls hI hS hL hv g1 g2 hn
  obtain rfl : len = 1 := Nat.eq_of_beq_eq_true hl
  simp only [aAct] at h
  split at h
  · rename_i x r
    refine lv_i2c X.1 X.2.1 hd rfl ?_
    exact (hK _ _ _ _ h).1 ad H locs ls hI hS hL (aVs.c trivial hv.t) g1 g2 hn
  · cases h
theorem as_dup  (X : aFx p R s m args meth c G d k g0 o) (hK : aKok p l e R s m args below meth c Q G k g0 K o) (hd : decode (aNm k).2.1 pc = .ok (.dup, len)) (hl : aIl k pc (.dup) len t a b z = true) (h : aAct C K d k (.dup) len t a b z pc L st σ = some o) : aGo p l e R s m args below meth c Q G k g0 pc L st σ := by
  intro ad H locs ls hI hS hL hv g1 g2 hn
  obtain rfl : len = 1 := Nat.eq_of_beq_eq_true hl
  simp only [aAct] at h
  split at h
  · rename_i x r
    refine lv_dup X.1 X.2.1 hd rfl ?_
    exact (hK _ _ _ _ h).1 ad H locs ls hI hS hL (aVs.c trivial hv) g1 g2 hn
  · rename_i x r
    refine lv_dup X.1 X.2.1 hd (aUp_cat _) ?_
    exact (hK _ _ _ _ h).1 ad H locs ls hI hS hL (aVs.c hv.h hv) g1 g2 hn
  · cases h
theorem as_pop  (X : aFx p R s m args meth c G d k g0 o) (hK : aKok p l e R s m args below meth c Q G k g0 K o) (hd : decode (aNm k).2.1 pc = .ok (.pop, len)) (hl : aIl k pc (.pop) len t a b z = true) (h : aAct C K d k (.pop) len t a b z pc L st σ = some o) : aGo p l e R s m args below meth c Q G k g0 pc L st σ := by
  intro ad H locs ls hI hS hL hv g1 g2 hn
  obtain rfl : len = 1 := Nat.eq_of_beq_eq_true hl
  simp only [aAct] at h
  split at h
  · rename_i x r
    refine lv_pop X.1 X.2.1 hd rfl ?_
    exact (hK _ _ _ _ h).1 ad H locs ls hI hS hL hv.t g1 g2 hn
  · cases h
theorem as_dup_x1  (X : aFx p R s m args meth c G d k g0 o) (hK : aKok p l e R s m args below meth c Q G k g0 K o) (hd : decode (aNm k).2.1 pc = .ok (.dup_x1, len)) (hl : aIl k pc (.dup_x1) len t a b z = true) (h : aAct C K d k (.dup_x1) len t a b z pc L st σ = some o) : aGo p l e R s m args below meth c Q G k g0 pc L st σ := by
  intro ad H locs ls hI hS hL hv g1 g2 hn
  obtain rfl : len = 1 := Nat.eq_of_beq_eq_true hl
  simp only [aAct] at h
  split at h
  · rename_i x y r
    refine lv_dup_x1 X.1 X.2.1 hd rfl (aUp_cat _) ?_
    exact (hK _ _ _ _ h).1 ad H locs ls hI hS hL (aVs.c trivial (aVs.c hv.t.h (aVs.c trivial hv.t.t))) g1 g2 hn
  · cases h
theorem as_dup2  (X : aFx p R s m args meth c G d k g0 o) (hK : aKok p l e R s m args below meth c Q G k g0 K o) (hd : decode (aNm k).2.1 pc = .ok (.dup2, len)) (hl : aIl k pc (.dup2) len t a b z = true) (h : aAct C K d k (.dup2) len t a b z pc L st σ = some o) : aGo p l e R s m args below meth c Q G k g0 pc L st σ := by
  intro ad H locs ls hI hS hL hv g1 g2 hn
  obtain rfl : len = 1 := Nat.eq_of_beq_eq_true hl
  simp only [aAct] at h
  split at h
  · rename_i x y r
    refine lv_dup2_11 X.1 X.2.1 hd rfl (aUp_cat _) ?_
    exact (hK _ _ _ _ h).1 ad H locs ls hI hS hL (aVs.c trivial (aVs.c hv.t.h hv)) g1 g2 hn
  · cases h
theorem as_goto {off : Int} (X : aFx p R s m args meth c G d k g0 o) (hK : aKok p l e R s m args below meth c Q G k g0 K o) (hd : decode (aNm k).2.1 pc = .ok (.goto off, len)) (hl : aIl k pc (.goto off) len t a b z = true) (h : aAct C K d k (.goto off) len t a b z pc L st σ = some o) : aGo p l e R s m args below meth c Q G k g0 pc L st σ := by
  intro ad H locs ls hI hS hL hv g1 g2 hn
  rw [aIl, Bool.and_eq_true] at hl
  obtain ⟨hl0, hlj⟩ := hl
  obtain rfl : len = 3 := Nat.eq_of_beq_eq_true hl0
  have ht : ∀ off : Int, aJp pc off = true → (pc : Int) + off = ((aTgt pc off : Nat) : Int) := fun off q => (Int.toNat_of_nonneg (of_decide_eq_true q)).symm
  simp only [aAct] at h
  refine lv_goto X.1 X.2.1 hd (ht _ hlj) ?_
  exact (hK _ _ _ _ h).1 ad H locs ls hI hS hL hv g1 g2 hn
theorem as_if_eq {off : Int} (X : aFx p R s m args meth c G d k g0 o) (hK : aKok p l e R s m args below meth c Q G k g0 K o) (hd : decode (aNm k).2.1 pc = .ok (.ifCond .eq off, len)) (hl : aIl k pc (.ifCond .eq off) len t a b z = true) (h : aAct C K d k (.ifCond .eq off) len t a b z pc L st σ = some o) : aGo p l e R s m args below meth c Q G k g0 pc L st σ := by
  intro ad H locs ls hI hS hL hv g1 g2 hn
  rw [aIl, Bool.and_eq_true] at hl
  obtain ⟨hl0, hlj⟩ := hl
  obtain rfl : len = 3 := Nat.eq_of_beq_eq_true hl0
  have ht : ∀ off : Int, aJp pc off = true → (pc : Int) + off = ((aTgt pc off : Nat) : Int) := fun off q => (Int.toNat_of_nonneg (of_decide_eq_true q)).symm
  simp only [aAct] at h
  split at h
  · rename_i x r
    split at h
    · rename_i hc
      exact lv_if_eq X.1 X.2.1 hd (ht _ hlj) (fun _ => (hK _ _ _ _ h).1 ad H locs ls hI hS hL hv.t g1 g2 hn) (fun q => absurd hc q)
    · rename_i hc
      exact lv_if_eq X.1 X.2.1 hd (ht _ hlj) (fun q => absurd q hc) (fun _ => (hK _ _ _ _ h).1 ad H locs ls hI hS hL hv.t g1 g2 hn)
  · cases h
theorem as_if_ne {off : Int} (X : aFx p R s m args meth c G d k g0 o) (hK : aKok p l e R s m args below meth c Q G k g0 K o) (hd : decode (aNm k).2.1 pc = .ok (.ifCond .ne off, len)) (hl : aIl k pc (.ifCond .ne off) len t a b z = true) (h : aAct C K d k (.ifCond .ne off) len t a b z pc L st σ = some o) : aGo p l e R s m args below meth c Q G k g0 pc L st σ := by
  intro ad H locs ls hI hS hL hv g1 g2 hn
  rw [aIl, Bool.and_eq_true] at hl
  obtain ⟨hl0, hlj⟩ := hl
  obtain rfl : len = 3 := Nat.eq_of_beq_eq_true hl0
  have ht : ∀ off : Int, aJp pc off = true → (pc : Int) + off = ((aTgt pc off : Nat) : Int) := fun off q => (Int.toNat_of_nonneg (of_decide_eq_true q)).symm
  simp only [aAct] at h
  split at h
  · rename_i x r
    split at h
    · rename_i hc
      exact lv_if_ne X.1 X.2.1 hd (ht _ hlj) (fun q => absurd hc q) (fun _ => (hK _ _ _ _ h).1 ad H locs ls hI hS hL hv.t g1 g2 hn)
    · rename_i hc
      exact lv_if_ne X.1 X.2.1 hd (ht _ hlj) (fun _ => (hK _ _ _ _ h).1 ad H locs ls hI hS hL hv.t g1 g2 hn) (fun q => absurd q hc)
  · cases h
theorem as_if_lt {off : Int} (X : aFx p R s m args meth c G d k g0 o) (hK : aKok p l e R s m args below meth c Q G k g0 K o) (hd : decode (aNm k).2.1 pc = .ok (.ifCond .lt off, len)) (hl : aIl k pc (.ifCond .lt off) len t a b z = true) (h : aAct C K d k (.ifCond .lt off) len t a b z pc L st σ = some o) : aGo p l e R s m args below meth c Q G k g0 pc L st σ := by
  intro ad H locs ls hI hS hL hv g1 g2 hn
  rw [aIl, Bool.and_eq_true] at hl
  obtain ⟨hl0, hlj⟩ := hl
  obtain rfl : len = 3 := Nat.eq_of_beq_eq_true hl0
  have ht : ∀ off : Int, aJp pc off = true → (pc : Int) + off = ((aTgt pc off : Nat) : Int) := fun off q => (Int.toNat_of_nonneg (of_decide_eq_true q)).symm
  simp only [aAct] at h
  split at h
  · rename_i x r
    split at h
    · rename_i hc
      exact lv_if_lt X.1 X.2.1 hd (ht _ hlj) (fun _ => (hK _ _ _ _ h).1 ad H locs ls hI hS hL hv.t g1 g2 hn) (fun q => absurd hc q)
    · rename_i hc
      exact lv_if_lt X.1 X.2.1 hd (ht _ hlj) (fun q => absurd q hc) (fun _ => (hK _ _ _ _ h).1 ad H locs ls hI hS hL hv.t g1 g2 hn)
  · cases h
theorem as_if_ge {off : Int} (X : aFx p R s m args meth c G d k g0 o) (hK : aKok p l e R s m args below meth c Q G k g0 K o) (hd : decode (aNm k).2.1 pc = .ok (.ifCond .ge off, len)) (hl : aIl k pc (.ifCond .ge off) len t a b z = true) (h : aAct C K d k (.ifCond .ge off) len t a b z pc L st σ = some o) : aGo p l e R s m args below meth c Q G k g0 pc L st σ := by
  intro ad H locs ls hI hS hL hv g1 g2 hn
  rw [aIl, Bool.and_eq_true] at hl
  obtain ⟨hl0, hlj⟩ := hl
  obtain rfl : len = 3 := Nat.eq_of_beq_eq_true hl0
  have ht : ∀ off : Int, aJp pc off = true → (pc : Int) + off = ((aTgt pc off : Nat) : Int) := fun off q => (Int.toNat_of_nonneg (of_decide_eq_true q)).symm
  simp only [aAct] at h
  split at h
  · rename_i x r
    split at h
    · rename_i hc
      exact lv_if_ge X.1 X.2.1 hd (ht _ hlj) (fun _ => (hK _ _ _ _ h).1 ad H locs ls hI hS hL hv.t g1 g2 hn) (fun q => absurd hc q)
    · rename_i hc
      exact lv_if_ge X.1 X.2.1 hd (ht _ hlj) (fun q => absurd q hc) (fun _ => (hK _ _ _ _ h).1 ad H locs ls hI hS hL hv.t g1 g2 hn)
  · cases h
theorem as_if_gt {off : Int} (X : aFx p R s m args meth c G d k g0 o) (hK : aKok p l e R s m args below meth c Q G k g0 K o) (hd : decode (aNm k).2.1 pc = .ok (.ifCond .gt off, len)) (hl : aIl k pc (.ifCond .gt off) len t a b z = true) (h : aAct C K d k (.ifCond .gt off) len t a b z pc L st σ = some o) : aGo p l e R s m args below meth c Q G k g0 pc L st σ := by
  intro ad H locs ls hI hS hL hv g1 g2 hn
  rw [aIl, Bool.and_eq_true] at hl
  obtain ⟨hl0, hlj⟩ := hl
  obtain rfl : len = 3 := Nat.eq_of_beq_eq_true hl0
  have ht : ∀ off : Int, aJp pc off = true → (pc : Int) + off = ((aTgt pc off : Nat) : Int) := fun off q => (Int.toNat_of_nonneg (of_decide_eq_true q)).symm
  simp only [aAct] at h
  split at h
  · rename_i x r
    split at h
    · rename_i hc
      exact lv_if_gt X.1 X.2.1 hd (ht _ hlj) (fun _ => (hK _ _ _ _ h).1 ad H locs ls hI hS hL hv.t g1 g2 hn) (fun q => absurd hc q)
    · rename_i hc
      exact lv_if_gt X.1 X.2.1 hd (ht _ hlj) (fun q => absurd q hc) (fun _ => (hK _ _ _ _ h).1 ad H locs ls hI hS hL hv.t g1 g2 hn)
  · cases h
theorem as_if_le {off : Int} (X : aFx p R s m args meth c G d k g0 o) (hK : aKok p l e R s m args below meth c Q G k g0 K o) (hd : decode (aNm k).2.1 pc = .ok (.ifCond .le off, len)) (hl : aIl k pc (.ifCond .le off) len t a b z = true) (h : aAct C K d k (.ifCond .le off) len t a b z pc L st σ = some o) : aGo p l e R s m args below meth c Q G k g0 pc L st σ := by
  intro ad H locs ls hI hS hL hv g1 g2 hn
  rw [aIl, Bool.and_eq_true] at hl
  obtain ⟨hl0, hlj⟩ := hl
  obtain rfl : len = 3 := Nat.eq_of_beq_eq_true hl0
  have ht : ∀ off : Int, aJp pc off = true → (pc : Int) + off = ((aTgt pc off : Nat) : Int) := fun off q => (Int.toNat_of_nonneg (of_decide_eq_true q)).symm
  simp only [aAct] at h
  split at h
  · rename_i x r
    split at h
    · rename_i hc
      exact lv_if_le X.1 X.2.1 hd (ht _ hlj) (fun _ => (hK _ _ _ _ h).1 ad H locs ls hI hS hL hv.t g1 g2 hn) (fun q => absurd hc q)
    · rename_i hc
      exact lv_if_le X.1 X.2.1 hd (ht _ hlj) (fun q => absurd q hc) (fun _ => (hK _ _ _ _ h).1 ad H locs ls hI hS hL hv.t g1 g2 hn)
  · cases h
theorem as_icmp_eq {off : Int} (X : aFx p R s m args meth c G d k g0 o) (hK : aKok p l e R s m args below meth c Q G k g0 K o) (hd : decode (aNm k).2.1 pc = .ok (.if_icmp .eq off, len)) (hl : aIl k pc (.if_icmp .eq off) len t a b z = true) (h : aAct C K d k (.if_icmp .eq off) len t a b z pc L st σ = some o) : aGo p l e R s m args below meth c Q G k g0 pc L st σ := by
  intro ad H locs ls hI hS hL hv g1 g2 hn
  rw [aIl, Bool.and_eq_true] at hl
  obtain ⟨hl0, hlj⟩ := hl
  obtain rfl : len = 3 := Nat.eq_of_beq_eq_true hl0
  have ht : ∀ off : Int, aJp pc off = true → (pc : Int) + off = ((aTgt pc off : Nat) : Int) := fun off q => (Int.toNat_of_nonneg (of_decide_eq_true q)).symm
  simp only [aAct] at h
  split at h
  · rename_i y x r
    split at h
    · rename_i hc
      exact lv_icmp_eq X.1 X.2.1 hd (ht _ hlj) (fun _ => (hK _ _ _ _ h).1 ad H locs ls hI hS hL hv.t.t g1 g2 hn) (fun q => absurd hc q)
    · rename_i hc
      exact lv_icmp_eq X.1 X.2.1 hd (ht _ hlj) (fun q => absurd q hc) (fun _ => (hK _ _ _ _ h).1 ad H locs ls hI hS hL hv.t.t g1 g2 hn)
  · cases h
theorem as_icmp_ne {off : Int} (X : aFx p R s m args meth c G d k g0 o) (hK : aKok p l e R s m args below meth c Q G k g0 K o) (hd : decode (aNm k).2.1 pc = .ok (.if_icmp .ne off, len)) (hl : aIl k pc (.if_icmp .ne off) len t a b z = true) (h : aAct C K d k (.if_icmp .ne off) len t a b z pc L st σ = some o) : aGo p l e R s m args below meth c Q G k g0 pc L st σ := by
  intro ad H locs ls hI hS hL hv g1 g2 hn
  rw [aIl, Bool.and_eq_true] at hl
  obtain ⟨hl0, hlj⟩ := hl
  obtain rfl : len = 3 := Nat.eq_of_beq_eq_true hl0
  have ht : ∀ off : Int, aJp pc off = true → (pc : Int) + off = ((aTgt pc off : Nat) : Int) := fun off q => (Int.toNat_of_nonneg (of_decide_eq_true q)).symm
  simp only [aAct] at h
  split at h
  · rename_i y x r
    split at h
    · rename_i hc
      exact lv_icmp_ne X.1 X.2.1 hd (ht _ hlj) (fun q => absurd hc q) (fun _ => (hK _ _ _ _ h).1 ad H locs ls hI hS hL hv.t.t g1 g2 hn)
    · rename_i hc
      exact lv_icmp_ne X.1 X.2.1 hd (ht _ hlj) (fun _ => (hK _ _ _ _ h).1 ad H locs ls hI hS hL hv.t.t g1 g2 hn) (fun q => absurd q hc)
  · cases h
theorem as_icmp_lt {off : Int} (X : aFx p R s m args meth c G d k g0 o) (hK : aKok p l e R s m args below meth c Q G k g0 K o) (hd : decode (aNm k).2.1 pc = .ok (.if_icmp .lt off, len)) (hl : aIl k pc (.if_icmp .lt off) len t a b z = true) (h : aAct C K d k (.if_icmp .lt off) len t a b z pc L st σ = some o) : aGo p l e R s m args below meth c Q G k g0 pc L st σ := by
  intro ad H locs ls hI hS hL hv g1 g2 hn
  rw [aIl, Bool.and_eq_true] at hl
  obtain ⟨hl0, hlj⟩ := hl
  obtain rfl : len = 3 := Nat.eq_of_beq_eq_true hl0
  have ht : ∀ off : Int, aJp pc off = true → (pc : Int) + off = ((aTgt pc off : Nat) : Int) := fun off q => (Int.toNat_of_nonneg (of_decide_eq_true q)).symm
  simp only [aAct] at h
  split at h
  · rename_i y x r
    split at h
    · rename_i hc
      exact lv_icmp_lt X.1 X.2.1 hd (ht _ hlj) (fun _ => (hK _ _ _ _ h).1 ad H locs ls hI hS hL hv.t.t g1 g2 hn) (fun q => absurd hc q)
    · rename_i hc
      exact lv_icmp_lt X.1 X.2.1 hd (ht _ hlj) (fun q => absurd q hc) (fun _ => (hK _ _ _ _ h).1 ad H locs ls hI hS hL hv.t.t g1 g2 hn)
  · cases h
theorem as_icmp_ge {off : Int} (X : aFx p R s m args meth c G d k g0 o) (hK : aKok p l e R s m args below meth c Q G k g0 K o) (hd : decode (aNm k).2.1 pc = .ok (.if_icmp .ge off, len)) (hl : aIl k pc (.if_icmp .ge off) len t a b z = true) (h : aAct C K d k (.if_icmp .ge off) len t a b z pc L st σ = some o) : aGo p l e R s m args below meth c Q G k g0 pc L st σ := by
  intro ad H locs ls hI hS hL hv g1 g2 hn
  rw [aIl, Bool.and_eq_true] at hl
  obtain ⟨hl0, hlj⟩ := hl
  obtain rfl : len = 3 := Nat.eq_of_beq_eq_true hl0
  have ht : ∀ off : Int, aJp pc off = true → (pc : Int) + off = ((aTgt pc off : Nat) : Int) := fun off q => (Int.toNat_of_nonneg (of_decide_eq_true q)).symm
  simp only [aAct] at h
  split at h
  · rename_i y x r
    split at h
    · rename_i hc
      exact lv_icmp_ge X.1 X.2.1 hd (ht _ hlj) (fun _ => (hK _ _ _ _ h).1 ad H locs ls hI hS hL hv.t.t g1 g2 hn) (fun q => absurd hc q)
    · rename_i hc
      exact lv_icmp_ge X.1 X.2.1 hd (ht _ hlj) (fun q => absurd q hc) (fun _ => (hK _ _ _ _ h).1 ad H locs ls hI hS hL hv.t.t g1 g2 hn)
  · cases h
theorem as_icmp_gt {off : Int} (X : aFx p R s m args meth c G d k g0 o) (hK : aKok p l e R s m args below meth c Q G k g0 K o) (hd : decode (aNm k).2.1 pc = .ok (.if_icmp .gt off, len)) (hl : aIl k pc (.if_icmp .gt off) len t a b z = true) (h : aAct C K d k (.if_icmp .gt off) len t a b z pc L st σ = some o) : aGo p l e R s m args below meth c Q G k g0 pc L st σ := by
  intro ad H locs ls hI hS hL hv g1 g2 hn
  rw [aIl, Bool.and_eq_true] at hl
  obtain ⟨hl0, hlj⟩ := hl
  obtain rfl : len = 3 := Nat.eq_of_beq_eq_true hl0
  have ht : ∀ off : Int, aJp pc off = true → (pc : Int) + off = ((aTgt pc off : Nat) : Int) := fun off q => (Int.toNat_of_nonneg (of_decide_eq_true q)).symm
  simp only [aAct] at h
  split at h
  · rename_i y x r
    split at h
    · rename_i hc
      exact lv_icmp_gt X.1 X.2.1 hd (ht _ hlj) (fun _ => (hK _ _ _ _ h).1 ad H locs ls hI hS hL hv.t.t g1 g2 hn) (fun q => absurd hc q)
    · rename_i hc
      exact lv_icmp_gt X.1 X.2.1 hd (ht _ hlj) (fun q => absurd q hc) (fun _ => (hK _ _ _ _ h).1 ad H locs ls hI hS hL hv.t.t g1 g2 hn)
  · cases h
theorem as_icmp_le {off : Int} (X : aFx p R s m args meth c G d k g0 o) (hK : aKok p l e R s m args below meth c Q G k g0 K o) (hd : decode (aNm k).2.1 pc = .ok (.if_icmp .le off, len)) (hl : aIl k pc (.if_icmp .le off) len t a b z = true) (h : aAct C K d k (.if_icmp .le off) len t a b z pc L st σ = some o) : aGo p l e R s m args below meth c Q G k g0 pc L st σ := by
  intro ad H locs ls hI hS hL hv g1 g2 hn
  rw [aIl, Bool.and_eq_true] at hl
  obtain ⟨hl0, hlj⟩ := hl
  obtain rfl : len = 3 := Nat.eq_of_beq_eq_true hl0
  have ht : ∀ off : Int, aJp pc off = true → (pc : Int) + off = ((aTgt pc off : Nat) : Int) := fun off q => (Int.toNat_of_nonneg (of_decide_eq_true q)).symm
  simp only [aAct] at h
  split at h
  · rename_i y x r
    split at h
    · rename_i hc
      exact lv_icmp_le X.1 X.2.1 hd (ht _ hlj) (fun _ => (hK _ _ _ _ h).1 ad H locs ls hI hS hL hv.t.t g1 g2 hn) (fun q => absurd hc q)
    · rename_i hc
      exact lv_icmp_le X.1 X.2.1 hd (ht _ hlj) (fun q => absurd q hc) (fun _ => (hK _ _ _ _ h).1 ad H locs ls hI hS hL hv.t.t g1 g2 hn)
  · cases h
theorem as_tableswitch {df lo hi : Int} {offs : Array Int} (X : aFx p R s m args meth c G d k g0 o) (hK : aKok p l e R s m args below meth c Q G k g0 K o) (hd : decode (aNm k).2.1 pc = .ok (.tableswitch df lo hi offs, len)) (hl : aIl k pc (.tableswitch df lo hi offs) len t a b z = true) (h : aAct C K d k (.tableswitch df lo hi offs) len t a b z pc L st σ = some o) : aGo p l e R s m args below meth c Q G k g0 pc L st σ := by
  intro ad H locs ls hI hS hL hv g1 g2 hn
  rw [aIl, Bool.and_eq_true] at hl
  obtain ⟨hl0, hlj⟩ := hl
  have ht : ∀ off : Int, aJp pc off = true → (pc : Int) + off = ((aTgt pc off : Nat) : Int) := fun off q => (Int.toNat_of_nonneg (of_decide_eq_true q)).symm
  simp only [aAct] at h
  split at h
  · rename_i x r
    split at h
    · rename_i hc
      exact lv_tableOut X.1 X.2.1 hd hc (ht _ hl0) ((hK _ _ _ _ h).1 ad H locs ls hI hS hL hv.t g1 g2 hn)
    · rename_i hc
      split at h
      · rename_i off ho
        exact lv_tableIn X.1 X.2.1 hd (fun q => hc (Or.inl q)) (fun q => hc (Or.inr q)) (by rw [← Array.getElem?_toList]; exact ho) (ht _ (List.all_eq_true.mp hlj _ (List.mem_of_getElem? ho))) ((hK _ _ _ _ h).1 ad H locs ls hI hS hL hv.t g1 g2 hn)
      · cases h
  · cases h
theorem aOff {pc : Nat} {df : Int} (hd : aJp pc df = true) (x : Int) : ∀ ps : List (Int × Int), ps.all (fun q => aJp pc q.2) = true → aJp pc (Op.lookupswitch.offset ps df x) = true
  | [], _ => hd
  | (a, b) :: r, h => by
    rw [List.all_cons, Bool.and_eq_true] at h
    rw [Op.lookupswitch.offset_cons]
    split
    · exact h.1
    · exact aOff hd x r h.2
theorem as_lookupswitch {df : Int} {ps : Array (Int × Int)} (X : aFx p R s m args meth c G d k g0 o) (hK : aKok p l e R s m args below meth c Q G k g0 K o) (hd : decode (aNm k).2.1 pc = .ok (.lookupswitch df ps, len)) (hl : aIl k pc (.lookupswitch df ps) len t a b z = true) (h : aAct C K d k (.lookupswitch df ps) len t a b z pc L st σ = some o) : aGo p l e R s m args below meth c Q G k g0 pc L st σ := by
  intro ad H locs ls hI hS hL hv g1 g2 hn
  rw [aIl, Bool.and_eq_true, Bool.and_eq_true] at hl
  obtain ⟨⟨hl0, hlj⟩, hl2⟩ := hl
  have ht : ∀ off : Int, aJp pc off = true → (pc : Int) + off = ((aTgt pc off : Nat) : Int) := fun off q => (Int.toNat_of_nonneg (of_decide_eq_true q)).symm
  simp only [aAct] at h
  split at h
  · rename_i x r
    exact lv_lookup X.1 X.2.1 hd hl2 rfl (ht _ (aOff hl0 _ _ hlj)) ((hK _ _ _ _ h).1 ad H locs ls hI hS hL hv.t g1 g2 hn)
  · cases h
end Snd1
end
section
/-! fields, rows, new cells -/
theorem aInF_w {ow ix c j : Nat} (h : aInF ow ix c j = true) : Cond.fieldLink (aOw ow) ix (aFd c j).1 (aFd c j).2.1 (aFd c j).2.2.1 ∈ aTb := by
  unfold aInF at h
  rw [List.any_eq_true] at h
  obtain ⟨⟨o1, i1, c1, j1, p1⟩, hq, h1⟩ := h
  simp only [Bool.and_eq_true] at h1
  obtain ⟨⟨⟨e1, e2⟩, e3⟩, e4⟩ := h1
  cases Nat.eq_of_beq_eq_true e1
  cases Nat.eq_of_beq_eq_true e2
  cases Nat.eq_of_beq_eq_true e3
  cases Nat.eq_of_beq_eq_true e4
  exact aWd_in (aFL_ok _ hq)
theorem aInM_w {ow ix k : Nat} (h : aInM aMLk ow ix k = true) : Cond.methodLink (aOw ow) ix (aNm k).1 ∈ aTb := by
  unfold aInM at h
  rw [List.any_eq_true] at h
  obtain ⟨⟨o1, i1, k1, p1⟩, hq, h1⟩ := h
  simp only [Bool.and_eq_true] at h1
  obtain ⟨⟨e1, e2⟩, e3⟩ := h1
  cases Nat.eq_of_beq_eq_true e1
  cases Nat.eq_of_beq_eq_true e2
  cases Nat.eq_of_beq_eq_true e3
  exact aWd_in (aMLk_ok _ hq)
theorem aInC_w {ow ix c n : Nat} (h : aInC ow ix c n = true) : ∃ C T, vwCl[c]? = some (C, T, n) ∧ Cond.classLink (aOw ow) ix C ∈ aTb := by
  unfold aInC at h
  rw [List.any_eq_true] at h
  obtain ⟨⟨o1, i1, c1, n1, p1⟩, hq, h1⟩ := h
  simp only [Bool.and_eq_true] at h1
  obtain ⟨⟨⟨e1, e2⟩, e3⟩, e4⟩ := h1
  cases Nat.eq_of_beq_eq_true e1
  cases Nat.eq_of_beq_eq_true e2
  cases Nat.eq_of_beq_eq_true e3
  cases Nat.eq_of_beq_eq_true e4
  have h2 := aCLk_ok _ hq
  unfold aCLkk at h2
  dsimp only at h2
  split at h2
  · rename_i C T N hc
    rw [Bool.and_eq_true, decide_eq_true_eq] at h2
    obtain ⟨h3, rfl⟩ := h2
    exact ⟨C, T, hc, aWd_in h3⟩
  · cases h2
theorem aInKI_w {ow ix : Nat} {z : Int} (h : aInK aKI ow ix z = true) : Cond.constant (aOw ow) ix (Int32.ofInt z) ∈ aTb := by
  unfold aInK at h
  rw [List.any_eq_true] at h
  obtain ⟨⟨o1, i1, z1, p1⟩, hq, h1⟩ := h
  simp only [Bool.and_eq_true, decide_eq_true_eq] at h1
  obtain ⟨⟨e1, e2⟩, e3⟩ := h1
  cases Nat.eq_of_beq_eq_true e1
  cases Nat.eq_of_beq_eq_true e2
  cases e3
  exact aWd_in (aKI_ok _ hq)
theorem aInKL_w {ow ix : Nat} {z : Int} (h : aInK aKL ow ix z = true) : Cond.constantLong (aOw ow) ix (Int64.ofInt z) ∈ aTb := by
  unfold aInK at h
  rw [List.any_eq_true] at h
  obtain ⟨⟨o1, i1, z1, p1⟩, hq, h1⟩ := h
  simp only [Bool.and_eq_true, decide_eq_true_eq] at h1
  obtain ⟨⟨e1, e2⟩, e3⟩ := h1
  cases Nat.eq_of_beq_eq_true e1
  cases Nat.eq_of_beq_eq_true e2
  cases e3
  exact aWd_in (aKL_ok _ hq)
theorem aCl_tb {c : Nat} {C : String} {T : u_T} {N : Nat} (h : vwCl[c]? = some (C, T, N)) : ∀ w ∈ u_ws C T N, w ∈ aTb := by
  intro w hw
  refine List.mem_filter.mpr ⟨(aCl h).1 w hw, ?_⟩
  obtain ⟨j, -, rfl⟩ := List.mem_map.mp hw
  unfold u_lay
  split <;> rfl
theorem aFld {ow ix a b : Nat} (hl : (aInF ow ix a (b / 8) && (match vwCl[a]? with
      | some q => decide (b / 8 < q.2.2)
      | none => false) && Nat.beq (b % 8) (aTc ((aTyF.getD a tyX0) (b / 8)))) = true) : ∃ C T N, vwCl[a]? = some (C, T, N) ∧ b / 8 < N ∧ b % 8 = aTc ((aTyF.getD a tyX0) (b / 8)) ∧ Cond.fieldLink (aOw ow) ix (T (b / 8)).1 (T (b / 8)).2.1 (T (b / 8)).2.2.1 ∈ aTb ∧ aFd a (b / 8) = T (b / 8) := by
  rw [Bool.and_eq_true, Bool.and_eq_true] at hl
  obtain ⟨⟨h1, h2⟩, h3⟩ := hl
  have h4 := aInF_w h1
  cases hc : vwCl[a]? with
  | none => rw [hc] at h2; cases h2
  | some q =>
    rw [hc] at h2
    obtain ⟨C, T, N⟩ := q
    have e : aFd a (b / 8) = T (b / 8) := by unfold aFd; rw [hc]
    rw [e] at h4
    exact ⟨C, T, N, rfl, of_decide_eq_true h2, Nat.eq_of_beq_eq_true h3, h4, e⟩
theorem aObj {G : aEnv} {ad : List Nat} {σ : aS} {H : Heap} {ob a N : Nat} {C : String} {T : u_T} (hI : aInv G ad σ H) (hc : vwCl[a]? = some (C, T, N)) (hk : aKd ob = a) (hv : ob < σ.1.1) :
    6 ≤ ob ∧ ob < ad.length + 6 ∧ aKd ob < 12 ∧ aLn ob = N ∧ (aWs G ad σ)[ob - 6]? = some (aAdr G ad ob, .inr (a, (List.range N).map (fun j => aFv G ad ((aTyF.getD a tyX0) j) (σ.2.1 ob j) (σ.2.2.2 ob j)))) ∧ aUp G ad (.ref ob) = .ref (aAdr G ad ob) := by
  have ha : a < 12 := (List.getElem?_eq_some_iff.mp hc).1
  have hk2 : aKd ob < 12 := by rw [hk]; exact ha
  obtain ⟨h6, h68⟩ := aKd_lt (o := ob) (by omega)
  obtain ⟨C', T', hc'⟩ := aKd_cls ob h68 hk2
  have hl : ob < ad.length + 6 := by rw [hI.1]; exact hv
  rw [hk, hc] at hc'
  cases hc'
  refine ⟨h6, hl, hk2, rfl, ?_, aUp_hi h6⟩
  rw [aWs_at h6 hl]
  unfold aEn
  rw [if_pos hk2, hk]
theorem aFv_ref {G : aEnv} {ad : List Nat} {ty : FieldType} {x : Int32} {q : Nat} (h : aTc ty = 4) : aFv G ad ty x q = aUp G ad (aRf q) := by
  cases ty <;> first | rfl | (simp [aTc] at h)
theorem aFv_int {G : aEnv} {ad : List Nat} {ty : FieldType} {x : Int32} {q : Nat} (h : aTc ty < 2) : aFv G ad ty x q = .int x := by
  cases ty <;> first | rfl | (simp [aTc] at h)
theorem aTc_lt {ty : FieldType} {n : Nat} (h : n % 8 = aTc ty) (h4 : ¬ n % 8 = 4) : aTc ty < 2 := by
  have : n % 8 < 8 := Nat.mod_lt _ (by decide)
  cases ty <;> simp [aTc] at h ⊢ <;> omega
theorem aVk_rf {n q : Nat} (h : q ≤ n) : aVk n (aRf q) := by
  cases q with
  | zero => trivial
  | succ q => exact h
theorem aKd_ext {ob : Nat} (h : 20 ≤ aKd ob) (h2 : aKd ob < 99) : ob < 6 := by
  rcases Nat.lt_or_ge ob 68 with q | q
  · have : ∀ i, i < 68 → 20 ≤ aKd i → i < 6 := by decide +kernel
    exact this ob q h
  · have : aKd ob = 99 := by
      unfold aKd
      rw [List.getD_eq_getElem?_getD, List.getElem?_eq_none (by exact q)]
      rfl
    omega
theorem aKd_21 {ob : Nat} (h : aKd ob = 21) : ob = 1 ∨ ob = 2 := by
  have h6 := aKd_ext (ob := ob) (by omega) (by omega)
  have : ∀ i, i < 6 → aKd i = 21 → i = 1 ∨ i = 2 := by decide +kernel
  exact this ob h6 h
theorem aKd_20 {ob : Nat} (h : aKd ob = 20) : ob = 0 := by
  have h6 := aKd_ext (ob := ob) (by omega) (by omega)
  have : ∀ i, i < 6 → aKd i = 20 → i = 0 := by decide +kernel
  exact this ob h6 h
theorem aKd_22 {ob : Nat} (h : aKd ob = 22) : ob = 3 ∨ ob = 4 := by
  have h6 := aKd_ext (ob := ob) (by omega) (by omega)
  have : ∀ i, i < 6 → aKd i = 22 → i = 3 ∨ i = 4 := by decide +kernel
  exact this ob h6 h
theorem aSF_ok : ∀ q ∈ aSF, (q.2.2.1 = 0 ∧ aWd q.2.2.2 (.fieldLink (aOw q.1) q.2.1 "java/lang/String" "value" "[B") = true) ∨ (q.2.2.1 = 1 ∧ aWd q.2.2.2 (.fieldLink (aOw q.1) q.2.1 "java/lang/String" "coder" "B") = true) := by decide +kernel
theorem aGS_ok : ∀ q ∈ aGS, (q.2.2.1 = 31 ∧ aWd q.2.2.2 (.fieldLink (aOw q.1) q.2.1 "java/lang/String" "COMPACT_STRINGS" "Z") = true) ∨ (q.2.2.1 = 32 ∧ aWd q.2.2.2 (.fieldLink (aOw q.1) q.2.1 "jdk/internal/util/Preconditions" "SIOOBE_FORMATTER" "Ljava/util/function/BiFunction;") = true) := by decide +kernel
theorem aKS_ok : ∀ q ∈ aKS, q.2.2 = 1 ∨ q.2.2 = 2 := by decide +kernel
theorem aInM_get {l : List (Nat × Nat × Nat × Nat)} {ow ix k : Nat} (h : aInM l ow ix k = true) : ∃ p, (ow, ix, k, p) ∈ l := by
  unfold aInM at h
  rw [List.any_eq_true] at h
  obtain ⟨⟨o1, i1, k1, p1⟩, hq, h1⟩ := h
  simp only [Bool.and_eq_true] at h1
  obtain ⟨⟨e1, e2⟩, e3⟩ := h1
  cases Nat.eq_of_beq_eq_true e1
  cases Nat.eq_of_beq_eq_true e2
  cases Nat.eq_of_beq_eq_true e3
  exact ⟨p1, hq⟩
theorem aIn3_get {l : List (Nat × Nat × Nat)} {ow ix k : Nat} (h : aIn3 l ow ix k = true) : (ow, ix, k) ∈ l := by
  unfold aIn3 at h
  rw [List.any_eq_true] at h
  obtain ⟨⟨o1, i1, k1⟩, hq, h1⟩ := h
  simp only [Bool.and_eq_true] at h1
  obtain ⟨⟨e1, e2⟩, e3⟩ := h1
  cases Nat.eq_of_beq_eq_true e1
  cases Nat.eq_of_beq_eq_true e2
  cases Nat.eq_of_beq_eq_true e3
  exact hq
theorem aIn2_get {l : List (Nat × Nat × Nat)} {ow ix : Nat} (h : aIn2 l ow ix = true) : ∃ p, (ow, ix, p) ∈ l := by
  unfold aIn2 at h
  rw [List.any_eq_true] at h
  obtain ⟨⟨o1, i1, p1⟩, hq, h1⟩ := h
  simp only [Bool.and_eq_true] at h1
  obtain ⟨e1, e2⟩ := h1
  cases Nat.eq_of_beq_eq_true e1
  cases Nat.eq_of_beq_eq_true e2
  exact ⟨p1, hq⟩
theorem aArr {G : aEnv} {ad : List Nat} {σ : aS} {H : Heap} {ob κ : Nat} (hI : aInv G ad σ H) (hk : aKd ob = κ) (h12 : 12 ≤ κ) (h16 : κ ≤ 16) (hv : ob < σ.1.1) :
    6 ≤ ob ∧ ob < ad.length + 6 ∧ (aWs G ad σ)[ob - 6]? = some (aAdr G ad ob, .inl (G.2.1 κ, aLn ob, if κ = 15 then .inr (.inl (σ.2.2.1 ob)) else .inl (σ.2.1 ob))) ∧ aUp G ad (.ref ob) = .ref (aAdr G ad ob) ∧ aSz σ ob = aLn ob := by
  obtain ⟨h6, h68⟩ := aKd_lt (o := ob) (by omega)
  have hl : ob < ad.length + 6 := by rw [hI.1]; exact hv
  refine ⟨h6, hl, ?_, aUp_hi h6, by unfold aSz; rw [if_neg (by omega)]⟩
  rw [aWs_at h6 hl]
  unfold aEn
  rw [if_neg (by omega), hk]
theorem aInv_arr {G : aEnv} {ad : List Nat} {σ : aS} {H H1 : Heap} {ob κ j : Nat} {x : Int32} (hI : aInv G ad σ H) (hk : aKd ob = κ) (h12 : 12 ≤ κ) (h16 : κ ≤ 16) (h15 : κ ≠ 15) (hv : ob < σ.1.1)
    (hP : va_P G.1 vwCl ((aWs G ad σ).set (ob - 6) (aAdr G ad ob, .inl (G.2.1 κ, aLn ob, .inl (upd (σ.2.1 ob) j x)))) H1) (hD : va_D (aA G) ((aWs G ad σ).set (ob - 6) (aAdr G ad ob, .inl (G.2.1 κ, aLn ob, .inl (upd (σ.2.1 ob) j x))))) : aInv G ad (aPI σ ob j x) H1 := by
  obtain ⟨h6, hl, -⟩ := aArr hI hk h12 h16 hv
  have e : (aWs G ad σ).set (ob - 6) (aAdr G ad ob, .inl (G.2.1 κ, aLn ob, .inl (upd (σ.2.1 ob) j x))) = aWs G ad (aPI σ ob j x) := by
    refine aWs_set h6 hl ?_ (fun i _ hi => aEn_same (aU_ne hi) rfl rfl)
    unfold aEn
    rw [if_neg (by omega), hk, if_neg h15]
    show Sum.inl (G.2.1 κ, aLn ob, Sum.inl (aU σ.2.1 ob j x ob)) = _
    rw [aU_row]
  rw [e] at hP hD
  exact ⟨hI.1, hP, hD, aWf_PI hI.2.2.2 h6 hv⟩
theorem aInv_arrL {G : aEnv} {ad : List Nat} {σ : aS} {H H1 : Heap} {ob j : Nat} {x : Int64} (hI : aInv G ad σ H) (hk : aKd ob = 15) (hv : ob < σ.1.1)
    (hP : va_P G.1 vwCl ((aWs G ad σ).set (ob - 6) (aAdr G ad ob, .inl (G.2.1 15, aLn ob, .inr (.inl (vp_updL (σ.2.2.1 ob) j x))))) H1) (hD : va_D (aA G) ((aWs G ad σ).set (ob - 6) (aAdr G ad ob, .inl (G.2.1 15, aLn ob, .inr (.inl (vp_updL (σ.2.2.1 ob) j x)))))) : aInv G ad (aPJ σ ob j x) H1 := by
  obtain ⟨h6, hl, -⟩ := aArr hI hk (by decide) (by decide) hv
  have e : (aWs G ad σ).set (ob - 6) (aAdr G ad ob, .inl (G.2.1 15, aLn ob, .inr (.inl (vp_updL (σ.2.2.1 ob) j x)))) = aWs G ad (aPJ σ ob j x) := by
    refine aWs_set h6 hl ?_ (fun i _ hi => aEn_same rfl (aU_ne hi) rfl)
    unfold aEn
    rw [if_neg (by omega), hk, if_pos rfl]
    show Sum.inl (G.2.1 15, aLn ob, Sum.inr (Sum.inl (aU σ.2.2.1 ob j x ob))) = _
    rw [aU_rowL]
  rw [e] at hP hD
  exact ⟨hI.1, hP, hD, aWf_PJ hI.2.2.2 hv⟩
theorem aInv_cpy {G : aEnv} {ad : List Nat} {σ : aS} {H H1 : Heap} {o1 ob i j n : Nat} (hI : aInv G ad σ H) (hk : aKd ob = 14) (hne : ¬ o1 = ob) (hv : ob < σ.1.1)
    (hP : va_P G.1 vwCl ((aWs G ad σ).set (ob - 6) (aAdr G ad ob, .inl (G.2.1 14, aLn ob, .inl (va_cpy (σ.2.1 o1) (σ.2.1 ob) i j n)))) H1) (hD : va_D (aA G) ((aWs G ad σ).set (ob - 6) (aAdr G ad ob, .inl (G.2.1 14, aLn ob, .inl (va_cpy (σ.2.1 o1) (σ.2.1 ob) i j n))))) : aInv G ad (aCp σ o1 i ob j n) H1 := by
  obtain ⟨h6, hl, -⟩ := aArr hI hk (by decide) (by decide) hv
  have e : (aWs G ad σ).set (ob - 6) (aAdr G ad ob, .inl (G.2.1 14, aLn ob, .inl (va_cpy (σ.2.1 o1) (σ.2.1 ob) i j n))) = aWs G ad (aCp σ o1 i ob j n) := by
    refine aWs_set h6 hl ?_ (fun i' _ hi => aEn_same (by funext j'; simp [aCp, hi]) rfl rfl)
    unfold aEn
    rw [if_neg (by omega), hk, if_neg (by decide)]
    have : (aCp σ o1 i ob j n).2.1 ob = va_cpy (σ.2.1 o1) (σ.2.1 ob) i j n := by
      funext j'
      simp [aCp, va_cpy]
    rw [this]
  rw [e] at hP hD
  exact ⟨hI.1, hP, hD, aWf_Cp hI.2.2.2 h6 hv⟩
theorem aInv_fld {G : aEnv} {ad : List Nat} {σ : aS} {H H1 : Heap} {ob a N j : Nat} {C : String} {T : u_T} {x : Int32} (hI : aInv G ad σ H) (hc : vwCl[a]? = some (C, T, N)) (hk : aKd ob = a) (hv : ob < σ.1.1) (hty : aTc ((aTyF.getD a tyX0) j) < 2)
    (hP : va_P G.1 vwCl ((aWs G ad σ).set (ob - 6) (aAdr G ad ob, .inr (a, ((List.range N).map (fun j => aFv G ad ((aTyF.getD a tyX0) j) (σ.2.1 ob j) (σ.2.2.2 ob j))).set j (.int x)))) H1) (hD : va_D (aA G) ((aWs G ad σ).set (ob - 6) (aAdr G ad ob, .inr (a, ((List.range N).map (fun j => aFv G ad ((aTyF.getD a tyX0) j) (σ.2.1 ob j) (σ.2.2.2 ob j))).set j (.int x))))) : aInv G ad (aPI σ ob j x) H1 := by
  obtain ⟨h6, hl, h12, hN, -⟩ := aObj hI hc hk hv
  have e : (aWs G ad σ).set (ob - 6) (aAdr G ad ob, .inr (a, ((List.range N).map (fun j => aFv G ad ((aTyF.getD a tyX0) j) (σ.2.1 ob j) (σ.2.2.2 ob j))).set j (.int x))) = aWs G ad (aPI σ ob j x) := by
    refine aWs_set h6 hl ?_ (fun i _ hi => aEn_same (aU_ne hi) rfl rfl)
    unfold aEn
    rw [if_pos h12, hk, hN]
    refine congrArg (fun q => Sum.inr (a, q)) (aMap_set ?_ (fun i hi => ?_))
    · show aFv G ad _ (aU σ.2.1 ob j x ob j) _ = _
      rw [aFv_int hty]
      simp [aU]
    · show aFv G ad _ (aU σ.2.1 ob j x ob i) _ = _
      simp [aU, hi]
      rfl
  rw [e] at hP hD
  exact ⟨hI.1, hP, hD, aWf_PI hI.2.2.2 h6 hv⟩
theorem aInv_fldR {G : aEnv} {ad : List Nat} {σ : aS} {H H1 : Heap} {ob a N j x : Nat} {C : String} {T : u_T} (hI : aInv G ad σ H) (hc : vwCl[a]? = some (C, T, N)) (hk : aKd ob = a) (hv : ob < σ.1.1) (hx : x < σ.1.1) (hty : aTc ((aTyF.getD a tyX0) j) = 4)
    (hP : va_P G.1 vwCl ((aWs G ad σ).set (ob - 6) (aAdr G ad ob, .inr (a, ((List.range N).map (fun j => aFv G ad ((aTyF.getD a tyX0) j) (σ.2.1 ob j) (σ.2.2.2 ob j))).set j (aUp G ad (.ref x))))) H1) (hD : va_D (aA G) ((aWs G ad σ).set (ob - 6) (aAdr G ad ob, .inr (a, ((List.range N).map (fun j => aFv G ad ((aTyF.getD a tyX0) j) (σ.2.1 ob j) (σ.2.2.2 ob j))).set j (aUp G ad (.ref x)))))) : aInv G ad (aPP σ ob j (x + 1)) H1 := by
  obtain ⟨h6, hl, h12, hN, -⟩ := aObj hI hc hk hv
  have e : (aWs G ad σ).set (ob - 6) (aAdr G ad ob, .inr (a, ((List.range N).map (fun j => aFv G ad ((aTyF.getD a tyX0) j) (σ.2.1 ob j) (σ.2.2.2 ob j))).set j (aUp G ad (.ref x)))) = aWs G ad (aPP σ ob j (x + 1)) := by
    refine aWs_set h6 hl ?_ (fun i _ hi => aEn_same rfl rfl (aU_ne hi))
    unfold aEn
    rw [if_pos h12, hk, hN]
    refine congrArg (fun q => Sum.inr (a, q)) (aMap_set ?_ (fun i hi => ?_))
    · show aFv G ad _ _ (aU σ.2.2.2 ob j (x + 1) ob j) = _
      rw [aFv_ref hty]
      simp [aU, aRf]
    · show aFv G ad _ _ (aU σ.2.2.2 ob j (x + 1) ob i) = _
      simp [aU, hi]
      rfl
  rw [e] at hP hD
  exact ⟨hI.1, hP, hD, aWf_PP hI.2.2.2 h6 hv hx⟩
theorem aEn_app {G : aEnv} {ad : List Nat} {σ : aS} {i : Nat} (x : List Nat) (hw : ∀ j, σ.2.2.2 i j ≤ ad.length + 6) : aEn G (ad ++ x) σ i = aEn G ad σ i := by
  unfold aEn
  have e : ∀ j, aFv G (ad ++ x) ((aTyF.getD (aKd i) tyX0) j) (σ.2.1 i j) (σ.2.2.2 i j) = aFv G ad ((aTyF.getD (aKd i) tyX0) j) (σ.2.1 i j) (σ.2.2.2 i j) := by
    intro j
    unfold aFv
    split
    · rfl
    · rfl
    · exact aUp_app x (aVk_rf (hw j))
  simp only [e]
theorem aWs_push {G : aEnv} {ad : List Nat} {σ σ' : aS} {q : Nat} {e : va_E} (h1 : ∀ i, i < ad.length → aEn G (ad ++ [q]) σ' (i + 6) = aEn G ad σ (i + 6)) (h2 : aEn G (ad ++ [q]) σ' (ad.length + 6) = e) : aWs G ad σ ++ [(q, e)] = aWs G (ad ++ [q]) σ' := by
  refine List.ext_getElem? fun n => ?_
  have hl : (aWs G ad σ).length = ad.length := by unfold aWs; rw [List.length_mapIdx]
  rw [aWs_get]
  by_cases hn : n < ad.length
  · rw [List.getElem?_append_left (by rw [hl]; exact hn), aWs_get, List.getElem?_append_left hn, List.getElem?_eq_getElem hn]
    simp [h1 n hn]
  · rw [List.getElem?_append_right (by rw [hl]; omega), List.getElem?_append_right (by omega), hl]
    by_cases he : n = ad.length
    · subst he
      simp [h2]
    · rw [List.getElem?_eq_none (by simp; omega), List.getElem?_eq_none (by simp; omega)]
      rfl
theorem aInv_new {G : aEnv} {ad : List Nat} {σ : aS} {H H1 : Heap} {n q : Nat} {e : va_E} (hI : aInv G ad σ H) (he : aEn G (ad ++ [q]) (aNew σ 1 n) σ.1.1 = e) (hP : va_P G.1 vwCl (aWs G ad σ ++ [(q, e)]) H1) (hD : va_D (aA G) (aWs G ad σ ++ [(q, e)])) : aInv G (ad ++ [q]) (aNew σ 1 n) H1 := by
  have w := hI.2.2.2
  have ew : aWs G ad σ ++ [(q, e)] = aWs G (ad ++ [q]) (aNew σ 1 n) := by
    refine aWs_push (fun i hi => ?_) (by rw [hI.1]; exact he)
    have : aEn G (ad ++ [q]) (aNew σ 1 n) (i + 6) = aEn G (ad ++ [q]) σ (i + 6) := rfl
    rw [this, aEn_app [q] (fun j => by rw [hI.1]; exact w.1 _ j (by omega))]
  rw [ew] at hP hD
  refine ⟨?_, hP, hD, aWf_New [q] w⟩
  have := hI.1
  simp [aNew]
  omega
section Snd1
variable {p : Program} {l : Launch} {e : Env} {R : Room} {s : State} {m : MethodId} {args : Array Value} {below : List Frame} {meth : Method} {c : Code} {Q : State → Prop} {G : aEnv} {d k : Nat} {g0 : Nat × Nat} {C : Nat → Nat → List Value → aS → Option aO} {K : Nat → List Value → List Value → aS → Option aO} {o : aO} {len t a b : Nat} {z : Int} {pc : Nat} {L st : List Value} {σ : aS}

theorem as_getfield {ix : Nat} (X : aFx p R s m args meth c G d k g0 o) (hK : aKok p l e R s m args below meth c Q G k g0 K o) (hd : decode (aNm k).2.1 pc = .ok (.getfield ix, len)) (hl : aIl k pc (.getfield ix) len t a b z = true) (h : aAct C K d k (.getfield ix) len t a b z pc L st σ = some o) : aGo p l e R s m args below meth c Q G k g0 pc L st σ := by
  intro ad H locs ls hI hS hL hv g1 g2 hn
  unfold aIl at hl
  dsimp only at hl
  rw [Bool.and_eq_true] at hl
  obtain ⟨hl0, hl⟩ := hl
  obtain rfl : len = 3 := Nat.eq_of_beq_eq_true hl0
  simp only [aAct] at h
  split at h
  · rename_i ob r
    split at h
    · split at h
      · rename_i hkd
        obtain ⟨Cn, T, N, hc, hj, hty, hw, -⟩ := aFld hl
        obtain ⟨h6, -, -, -, hws, hup⟩ := aObj hI hc hkd hv.h
        have go : ∀ v, aFv G ad ((aTyF.getD a tyX0) (b / 8)) (σ.2.1 ob (b / 8)) (σ.2.2.2 ob (b / 8)) = v → W p l e R s m args below meth c H locs (σ.1.2.1 - g0.1) (σ.1.2.2 - g0.2) Q (F0 m (pc + 3) ls (v :: r.map (aUp G ad))) → W p l e R s m args below meth c H locs (σ.1.2.1 - g0.1) (σ.1.2.2 - g0.2) Q (F0 m pc ls ((Value.ref ob :: r).map (aUp G ad))) := by
          intro v ev kk
          rw [List.map_cons, hup]
          exact va_get X.1 X.2.1 X.2.2.2.2.1 (aCl_tb hc) X.2.2.2.1 X.2.2.2.2.2.1.1 hI.2.1 (ob - 6) hws hc (b / 8) hj (X.2.2.2.2.1 _ hw) (fun _ q => q) (v := v) (by rw [List.getElem?_map, List.getElem?_range hj]; exact congrArg some ev) hd kk
        split at h
        · rename_i h4
          exact go _ (aFv_ref (by rw [← hty]; exact h4)) ((hK _ _ _ _ h).1 ad H locs ls hI hS hL (aVs.c (aVk_rf (hI.2.2.2.1 ob _ h6)) hv.t) g1 g2 hn)
        · rename_i h4
          exact go _ (aFv_int (aTc_lt hty h4)) ((hK _ _ _ _ h).1 ad H locs ls hI hS hL (aVs.c trivial hv.t) g1 g2 hn)
      · cases h
    · split at h
      · rename_i hkd
        obtain ⟨q, hq⟩ := aInM_get hl
        have hst : ∃ n bs, aStrings G ob n bs s s.heap := by
          rcases aKd_21 hkd with rfl | rfl
          · exact ⟨_, _, X.2.2.2.2.2.1.2.2.1⟩
          · exact ⟨_, _, X.2.2.2.2.2.1.2.2.2.1⟩
        obtain ⟨n, bs, s1, s2, s3, s4⟩ := hst
        have hob : ob = 1 ∨ ob = 2 := aKd_21 hkd
        have hup : aUp G ad (.ref ob) = .ref (G.2.2.2.1 ob) := aUp_lo (by rcases hob with q | q <;> rw [q] <;> decide)
        rw [List.map_cons, hup]
        split at h
        · rename_i h0
          have hw : Cond.fieldLink (aOw (aOn k)) ix "java/lang/String" "value" "[B" ∈ aTb := by
            rcases aSF_ok _ hq with ⟨-, z⟩ | ⟨z, -⟩
            · exact aWd_in z
            · exact absurd z (by dsimp only; omega)
          have kk := (hK _ _ _ _ h).1 ad H locs ls hI hS hL (aVs.c (show ob + 2 < σ.1.1 by have := hI.2.2.2.2.2.1; rcases hob with q | q <;> rw [q] <;> exact Nat.lt_of_lt_of_le (by decide) this) hv.t) g1 g2 hn
          rw [List.map_cons, show aUp G ad (.ref (ob + 2)) = .ref (G.2.2.2.1 (ob + 2)) from aUp_lo (by rcases hob with q | q <;> rw [q] <;> decide)] at kk
          exact vk_getf X.1 X.2.1 s2 hS X.2.2.2.1 (X.2.2.2.2.1 _ hw) (fun _ q => q) hd kk
        · rename_i h0
          have hw : Cond.fieldLink (aOw (aOn k)) ix "java/lang/String" "coder" "B" ∈ aTb := by
            rcases aSF_ok _ hq with ⟨z, -⟩ | ⟨-, z⟩
            · exact absurd z h0
            · exact aWd_in z
          exact vk_getf X.1 X.2.1 s3 hS X.2.2.2.1 (X.2.2.2.2.1 _ hw) (fun _ q => q) hd ((hK _ _ _ _ h).1 ad H locs ls hI hS hL (aVs.c trivial hv.t) g1 g2 hn)
      · cases h
    · cases h
  · cases h
theorem aPut_fin {a b k : Nat} {C : String} {T : u_T} {N : Nat} (hc : vwCl[a]? = some (C, T, N)) (e : aFd a (b / 8) = T (b / 8)) (h : (!(aFd a (b / 8)).2.2.2 || (decide ((aNm k).1.name = "<init>") && Nat.beq (aOn k) a)) = true) : (T (b / 8)).2.2.2 = false ∨ ((T (b / 8)).2.2.2 = true ∧ (aNm k).1.name = "<init>" ∧ aOn k = a) := by
  rw [e] at h
  cases hf : (T (b / 8)).2.2.2 with
  | false => exact Or.inl rfl
  | true =>
    rw [hf] at h
    simp only [Bool.not_true, Bool.false_or, Bool.and_eq_true, decide_eq_true_eq] at h
    exact Or.inr ⟨rfl, h.1, Nat.eq_of_beq_eq_true h.2⟩
theorem aOwn_cl : ∀ a, a < 12 → (vwCl[a]?).map (fun q => (q.1, (List.range q.2.2).all (fun j => decide ((q.2.1 j).1 = q.1)))) = some (aOw a, true) := by decide +kernel
theorem aOwn_T {a N j : Nat} {C : String} {T : u_T} (hc : vwCl[a]? = some (C, T, N)) (hj : j < N) : (T j).1 = aOw a := by
  have ha : a < 12 := (List.getElem?_eq_some_iff.mp hc).1
  have h := aOwn_cl a ha
  rw [hc] at h
  simp only [Option.map_some, Option.some.injEq, Prod.mk.injEq] at h
  have h2 := List.all_eq_true.mp h.2 j (List.mem_range.mpr hj)
  rw [← h.1]
  exact of_decide_eq_true h2
theorem aNr {ty : FieldType} {v : Value} (h : aTc ty = 4) (hv : v = .null ∨ ∃ q, v = .ref q) : narrow ty v = v ∧ fits ty v = true := by
  rcases hv with rfl | ⟨q, rfl⟩ <;> cases ty <;> first | exact ⟨rfl, rfl⟩ | (simp [aTc] at h)
theorem aUp_rf {G : aEnv} {ad : List Nat} {x : Nat} : aUp G ad (.ref x) = .null ∨ ∃ q, aUp G ad (.ref x) = .ref q := by
  rw [aUp_at]
  split
  · cases G.2.2.2.2.1 with
    | none => exact Or.inl rfl
    | some q => exact Or.inr ⟨q, rfl⟩
  · exact Or.inr ⟨_, rfl⟩
theorem aNi {ty : FieldType} {x : Int32} (h : aTc ty = 0) : narrow ty (.int x) = .int x ∧ fits ty (.int x) = true := by
  cases ty <;> first | exact ⟨rfl, rfl⟩ | (simp [aTc] at h)
theorem aNz {ty : FieldType} {x : Int32} (h : aTc ty = 1) (hx : x = 0 ∨ x = 1) : narrow ty (.int x) = .int x ∧ fits ty (.int x) = true := by
  rcases hx with rfl | rfl <;> cases ty <;> first | exact ⟨rfl, rfl⟩ | (simp [aTc] at h)
theorem as_putfield {ix : Nat} (X : aFx p R s m args meth c G d k g0 o) (hK : aKok p l e R s m args below meth c Q G k g0 K o) (hd : decode (aNm k).2.1 pc = .ok (.putfield ix, len)) (hl : aIl k pc (.putfield ix) len t a b z = true) (h : aAct C K d k (.putfield ix) len t a b z pc L st σ = some o) : aGo p l e R s m args below meth c Q G k g0 pc L st σ := by
  intro ad H locs ls hI hS hL hv g1 g2 hn
  unfold aIl at hl
  dsimp only at hl
  rw [Bool.and_eq_true] at hl
  obtain ⟨hl0, hl⟩ := hl
  obtain rfl : len = 3 := Nat.eq_of_beq_eq_true hl0
  simp only [aAct] at h
  split at h
  · rename_i x ob r
    split at h
    · split at h
      · rename_i hkd
        obtain ⟨hl1, hl2⟩ := (Bool.and_eq_true _ _).mp hl
        obtain ⟨Cn, T, N, hc, hj, hty, hw, eF⟩ := aFld hl1
        obtain ⟨h6, -, -, -, hws, hup⟩ := aObj hI hc hkd hv.t.h
        rw [List.map_cons, List.map_cons, hup]
        obtain ⟨-, htys, hnms⟩ := aCl hc
        have put : ∀ v, narrow ((aTyF.getD a tyX0) (b / 8)) v = v → fits ((aTyF.getD a tyX0) (b / 8)) v = true → (∀ (H1 : Heap) (locs1 : List Loc), va_P G.1 vwCl ((aWs G ad σ).set (ob - 6) (aAdr G ad ob, .inr (a, ((List.range N).map (fun j => aFv G ad ((aTyF.getD a tyX0) j) (σ.2.1 ob j) (σ.2.2.2 ob j))).set (b / 8) v))) H1 → va_D (aA G) ((aWs G ad σ).set (ob - 6) (aAdr G ad ob, .inr (a, ((List.range N).map (fun j => aFv G ad ((aTyF.getD a tyX0) j) (σ.2.1 ob j) (σ.2.2.2 ob j))).set (b / 8) v))) → va_S (aA G) s.heap H1 locs1 → W p l e R s m args below meth c H1 locs1 (σ.1.2.1 - g0.1) (σ.1.2.2 - g0.2) Q (F0 m (pc + 3) ls (r.map (aUp G ad)))) → W p l e R s m args below meth c H locs (σ.1.2.1 - g0.1) (σ.1.2.2 - g0.2) Q (F0 m pc ls (v :: .ref (aAdr G ad ob) :: r.map (aUp G ad))) := by
          intro v hn1 hf1 kk
          rcases aPut_fin hc eF hl2 with hfin | ⟨hfin, hini, how⟩
          · exact va_put X.1 X.2.1 X.2.2.2.2.1 (aCl_tb hc) _ htys hnms X.2.2.2.1 X.2.2.2.2.2.1.1 hI.2.1 hI.2.2.1 hS (ob - 6) hws hc (b / 8) hj (X.2.2.2.2.1 _ hw) (fun _ q => q) hfin (htys _ hj) hn1 hf1 (by simp [hj]) hd kk
          · exact va_putF X.1 X.2.1 X.2.2.2.2.1 (aCl_tb hc) _ htys hnms X.2.2.2.1 X.2.2.2.2.2.1.1 hI.2.1 hI.2.2.1 hS (ob - 6) hws hc (b / 8) hj (X.2.2.2.2.1 _ hw) (fun _ q => q) hfin (X.2.2.2.2.2.2.2.1.trans hini) (by rw [how]; exact aOwn_T hc hj) (htys _ hj) hn1 hf1 (by simp [hj]) hd kk
        split at h
        · rename_i h0
          exact put (.int x) (aNi (hty.symm.trans h0)).1 (aNi (hty.symm.trans h0)).2 (fun H1 locs1 hP1 hD1 hS1 => (hK _ _ _ _ h).1 ad H1 locs1 ls (aInv_fld hI hc hkd hv.t.h (by rw [← hty, h0]; decide) hP1 hD1) hS1 hL hv.t.t g1 g2 hn)
        · rename_i h0
          split at h
          · rename_i hx
            exact put (.int x) (aNz (hty.symm.trans h0) hx).1 (aNz (hty.symm.trans h0) hx).2 (fun H1 locs1 hP1 hD1 hS1 => (hK _ _ _ _ h).1 ad H1 locs1 ls (aInv_fld hI hc hkd hv.t.h (by rw [← hty, h0]; decide) hP1 hD1) hS1 hL hv.t.t g1 g2 hn)
          · cases h
        · cases h
      · cases h
    · cases h
  · rename_i x ob r
    split at h
    · split at h
      · rename_i hkd
        obtain ⟨hl1, hl2⟩ := (Bool.and_eq_true _ _).mp hl
        obtain ⟨Cn, T, N, hc, hj, hty, hw, eF⟩ := aFld hl1
        obtain ⟨h6, -, -, -, hws, hup⟩ := aObj hI hc hkd hv.t.h
        rw [List.map_cons, List.map_cons, hup]
        obtain ⟨-, htys, hnms⟩ := aCl hc
        have put : ∀ v, narrow ((aTyF.getD a tyX0) (b / 8)) v = v → fits ((aTyF.getD a tyX0) (b / 8)) v = true → (∀ (H1 : Heap) (locs1 : List Loc), va_P G.1 vwCl ((aWs G ad σ).set (ob - 6) (aAdr G ad ob, .inr (a, ((List.range N).map (fun j => aFv G ad ((aTyF.getD a tyX0) j) (σ.2.1 ob j) (σ.2.2.2 ob j))).set (b / 8) v))) H1 → va_D (aA G) ((aWs G ad σ).set (ob - 6) (aAdr G ad ob, .inr (a, ((List.range N).map (fun j => aFv G ad ((aTyF.getD a tyX0) j) (σ.2.1 ob j) (σ.2.2.2 ob j))).set (b / 8) v))) → va_S (aA G) s.heap H1 locs1 → W p l e R s m args below meth c H1 locs1 (σ.1.2.1 - g0.1) (σ.1.2.2 - g0.2) Q (F0 m (pc + 3) ls (r.map (aUp G ad)))) → W p l e R s m args below meth c H locs (σ.1.2.1 - g0.1) (σ.1.2.2 - g0.2) Q (F0 m pc ls (v :: .ref (aAdr G ad ob) :: r.map (aUp G ad))) := by
          intro v hn1 hf1 kk
          rcases aPut_fin hc eF hl2 with hfin | ⟨hfin, hini, how⟩
          · exact va_put X.1 X.2.1 X.2.2.2.2.1 (aCl_tb hc) _ htys hnms X.2.2.2.1 X.2.2.2.2.2.1.1 hI.2.1 hI.2.2.1 hS (ob - 6) hws hc (b / 8) hj (X.2.2.2.2.1 _ hw) (fun _ q => q) hfin (htys _ hj) hn1 hf1 (by simp [hj]) hd kk
          · exact va_putF X.1 X.2.1 X.2.2.2.2.1 (aCl_tb hc) _ htys hnms X.2.2.2.1 X.2.2.2.2.2.1.1 hI.2.1 hI.2.2.1 hS (ob - 6) hws hc (b / 8) hj (X.2.2.2.2.1 _ hw) (fun _ q => q) hfin (X.2.2.2.2.2.2.2.1.trans hini) (by rw [how]; exact aOwn_T hc hj) (htys _ hj) hn1 hf1 (by simp [hj]) hd kk
        split at h
        · rename_i h0
          exact put _ (aNr (hty.symm.trans h0) aUp_rf).1 (aNr (hty.symm.trans h0) aUp_rf).2 (fun H1 locs1 hP1 hD1 hS1 => (hK _ _ _ _ h).1 ad H1 locs1 ls (aInv_fldR hI hc hkd hv.t.h hv.h (hty.symm.trans h0) hP1 hD1) hS1 hL hv.t.t g1 g2 hn)
        · cases h
      · cases h
    · cases h
  · cases h
end Snd1
end
section
/-! rows, new cells, constants, calls of no method of ours -/
theorem aArW : aWd 321 (.arrayClass .byte) = true ∧ aWd 128 (.arrayClass .char) = true ∧ aWd 171 (.arrayClass .int) = true ∧ aWd 187 (.arrayClass .long) = true ∧ aWd 320 (.arrayClass .boolean) = true := by decide +kernel
theorem aKd_row : ∀ ob, ob < 68 → 12 ≤ aKd ob → aKd ob ≤ 22 → aKd ob ≤ 16 ∨ aKd ob = 20 ∨ aKd ob = 21 ∨ aKd ob = 22 := by decide +kernel
theorem aLn_small : ∀ ob, ob < 68 → aLn ob ≤ 500 := by decide +kernel
theorem aKd_68 {ob : Nat} (h : aKd ob < 99) : ob < 68 := by
  rcases Nat.lt_or_ge ob 68 with q | q
  · exact q
  · have : aKd ob = 99 := by
      unfold aKd
      rw [List.getD_eq_getElem?_getD, List.getElem?_eq_none (by exact q)]
      rfl
    omega
section Snd1
variable {p : Program} {l : Launch} {e : Env} {R : Room} {s : State} {m : MethodId} {args : Array Value} {below : List Frame} {meth : Method} {c : Code} {Q : State → Prop} {G : aEnv} {d k : Nat} {g0 : Nat × Nat} {C : Nat → Nat → List Value → aS → Option aO} {K : Nat → List Value → List Value → aS → Option aO} {o : aO} {len t a b : Nat} {z : Int} {pc : Nat} {L st : List Value} {σ : aS}

theorem aScr (X : aFx p R s m args meth c G d k g0 o) {ad : List Nat} : aUp G ad (.ref 0) = .ref (G.2.2.2.1 0) ∧ G.2.2.2.1 0 < s.heap.size := by
  refine ⟨rfl, ?_⟩
  obtain ⟨scr, q, -⟩ := X.2.2.2.2.2.1.2.1.1
  exact (Array.getElem?_eq_some_iff.mp q).1
theorem as_iaload  (X : aFx p R s m args meth c G d k g0 o) (hK : aKok p l e R s m args below meth c Q G k g0 K o)  (hd : decode (aNm k).2.1 pc = .ok (.iaload, len)) (hl : aIl k pc (.iaload) len t a b z = true) (h : aAct C K d k (.iaload) len t a b z pc L st σ = some o) : aGo p l e R s m args below meth c Q G k g0 pc L st σ := by
  intro ad H locs ls hI hS hL hv g1 g2 hn
  obtain rfl : len = 1 := Nat.eq_of_beq_eq_true hl
  simp only [aAct] at h
  split at h
  · rename_i j ob r
    split at h
    · rename_i hkd
      split at h
      · cases h
      · rename_i hin
        rcases hkd with hkd | hkd
        · obtain ⟨h6, -, hws, hup, hsz⟩ := aArr hI hkd (by decide) (by decide) hv.t.h
          rw [if_neg (by decide)] at hws
          rw [hsz] at hin
          rw [List.map_cons, List.map_cons, hup]
          exact va_iald X.1 X.2.1 X.2.2.2.2.2.1.1 hI.2.1 (ob - 6) 2 hws rfl hin hd ((hK _ _ _ _ h).1 ad H locs ls hI hS hL (aVs.c trivial hv.t.t) g1 g2 hn)
        · obtain rfl := aKd_20 hkd
          obtain ⟨hX0, hnA⟩ := X.2.2.2.2.2.1.2.1
          have hsz : aSz σ 0 = G.2.2.2.2.2.1 := by unfold aSz; rw [if_pos rfl]; exact hI.2.2.2.2.2.2.1
          rw [hsz] at hin
          have kk := (hK _ _ _ _ h).1 ad H locs ls hI hS hL (aVs.c trivial hv.t.t) g1 g2 hn
          rw [List.map_cons, hI.2.2.2.2.2.2.2.1] at kk
          rw [List.map_cons, List.map_cons, (aScr X).1]
          exact va_sld X.1 X.2.1 hX0 (aScr X (ad := ad)).2 hnA hS hin hd kk
    · cases h
  · cases h
theorem as_baload  (X : aFx p R s m args meth c G d k g0 o) (hK : aKok p l e R s m args below meth c Q G k g0 K o)  (hd : decode (aNm k).2.1 pc = .ok (.baload, len)) (hl : aIl k pc (.baload) len t a b z = true) (h : aAct C K d k (.baload) len t a b z pc L st σ = some o) : aGo p l e R s m args below meth c Q G k g0 pc L st σ := by
  intro ad H locs ls hI hS hL hv g1 g2 hn
  obtain rfl : len = 1 := Nat.eq_of_beq_eq_true hl
  simp only [aAct] at h
  split at h
  · rename_i j ob r
    split at h
    · rename_i hkd
      split at h
      · cases h
      · rename_i hin
        have kk := (hK _ _ _ _ h).1 ad H locs ls hI hS hL (aVs.c trivial hv.t.t) g1 g2 hn
        rcases hkd with hkd | hkd | hkd
        · obtain ⟨h6, -, hws, hup, -⟩ := aArr hI hkd (by decide) (by decide) hv.t.h
          rw [if_neg (by decide)] at hws
          rw [List.map_cons, List.map_cons, hup]
          exact va_bald X.1 X.2.1 X.2.2.2.2.2.1.1 hI.2.1 (ob - 6) 0 hws rfl hin hd kk
        · obtain ⟨h6, -, hws, hup, -⟩ := aArr hI hkd (by decide) (by decide) hv.t.h
          rw [if_neg (by decide)] at hws
          rw [List.map_cons, List.map_cons, hup]
          exact va_zald X.1 X.2.1 X.2.2.2.2.2.1.1 hI.2.1 (ob - 6) 4 hws rfl hin hd kk
        · rcases aKd_22 hkd with rfl | rfl
          · rw [List.map_cons, hI.2.2.2.2.2.2.2.2.1] at kk
            exact va_tb X.1 X.2.1 X.2.2.2.2.2.1.2.2.1.2.2.2 hS hin rfl hd kk
          · rw [List.map_cons, hI.2.2.2.2.2.2.2.2.2.1] at kk
            exact va_tb X.1 X.2.1 X.2.2.2.2.2.1.2.2.2.1.2.2.2 hS hin rfl hd kk
    · cases h
  · cases h
theorem as_caload  (X : aFx p R s m args meth c G d k g0 o) (hK : aKok p l e R s m args below meth c Q G k g0 K o)  (hd : decode (aNm k).2.1 pc = .ok (.caload, len)) (hl : aIl k pc (.caload) len t a b z = true) (h : aAct C K d k (.caload) len t a b z pc L st σ = some o) : aGo p l e R s m args below meth c Q G k g0 pc L st σ := by
  intro ad H locs ls hI hS hL hv g1 g2 hn
  obtain rfl : len = 1 := Nat.eq_of_beq_eq_true hl
  simp only [aAct] at h
  split at h
  · rename_i j ob r
    split at h
    · rename_i hkd
      split at h
      · cases h
      · rename_i hin
        obtain ⟨h6, -, hws, hup, -⟩ := aArr hI hkd (by decide) (by decide) hv.t.h
        rw [if_neg (by decide)] at hws
        rw [List.map_cons, List.map_cons, hup]
        exact va_cald X.1 X.2.1 X.2.2.2.2.2.1.1 hI.2.1 (ob - 6) 1 hws rfl hin hd ((hK _ _ _ _ h).1 ad H locs ls hI hS hL (aVs.c trivial hv.t.t) g1 g2 hn)
    · cases h
  · cases h
theorem as_laload  (X : aFx p R s m args meth c G d k g0 o) (hK : aKok p l e R s m args below meth c Q G k g0 K o)  (hd : decode (aNm k).2.1 pc = .ok (.laload, len)) (hl : aIl k pc (.laload) len t a b z = true) (h : aAct C K d k (.laload) len t a b z pc L st σ = some o) : aGo p l e R s m args below meth c Q G k g0 pc L st σ := by
  intro ad H locs ls hI hS hL hv g1 g2 hn
  obtain rfl : len = 1 := Nat.eq_of_beq_eq_true hl
  simp only [aAct] at h
  split at h
  · rename_i j ob r
    split at h
    · rename_i hkd
      split at h
      · cases h
      · rename_i hin
        obtain ⟨h6, -, hws, hup, -⟩ := aArr hI hkd (by decide) (by decide) hv.t.h
        rw [if_pos (by decide)] at hws
        rw [List.map_cons, List.map_cons, hup]
        exact va_lald X.1 X.2.1 X.2.2.2.2.2.1.1 hI.2.1 (ob - 6) 3 hws rfl hin hd ((hK _ _ _ _ h).1 ad H locs ls hI hS hL (aVs.c trivial hv.t.t) g1 g2 hn)
    · cases h
  · cases h
theorem as_iastore  (X : aFx p R s m args meth c G d k g0 o) (hK : aKok p l e R s m args below meth c Q G k g0 K o)  (hd : decode (aNm k).2.1 pc = .ok (.iastore, len)) (hl : aIl k pc (.iastore) len t a b z = true) (h : aAct C K d k (.iastore) len t a b z pc L st σ = some o) : aGo p l e R s m args below meth c Q G k g0 pc L st σ := by
  intro ad H locs ls hI hS hL hv g1 g2 hn
  obtain rfl : len = 1 := Nat.eq_of_beq_eq_true hl
  simp only [aAct] at h
  split at h
  · rename_i x j ob r
    split at h
    · rename_i hkd
      split at h
      · cases h
      · rename_i hin
        obtain ⟨h6, -, hws, hup, -⟩ := aArr hI hkd (by decide) (by decide) hv.t.t.h
        rw [if_neg (by decide)] at hws
        rw [List.map_cons, List.map_cons, List.map_cons, hup]
        exact va_iast X.1 X.2.1 X.2.2.2.2.2.1.1 hI.2.1 hI.2.2.1 hS (ob - 6) 2 hws rfl hin hd (fun H1 locs1 hP1 hD1 hS1 => (hK _ _ _ _ h).1 ad H1 locs1 ls (aInv_arr hI hkd (by decide) (by decide) (by decide) hv.t.t.h hP1 hD1) hS1 hL hv.t.t.t g1 g2 hn)
    · cases h
  · cases h
theorem as_castore  (X : aFx p R s m args meth c G d k g0 o) (hK : aKok p l e R s m args below meth c Q G k g0 K o)  (hd : decode (aNm k).2.1 pc = .ok (.castore, len)) (hl : aIl k pc (.castore) len t a b z = true) (h : aAct C K d k (.castore) len t a b z pc L st σ = some o) : aGo p l e R s m args below meth c Q G k g0 pc L st σ := by
  intro ad H locs ls hI hS hL hv g1 g2 hn
  obtain rfl : len = 1 := Nat.eq_of_beq_eq_true hl
  simp only [aAct] at h
  split at h
  · rename_i x j ob r
    split at h
    · rename_i hkd
      split at h
      · cases h
      · rename_i hin
        obtain ⟨h6, -, hws, hup, -⟩ := aArr hI hkd (by decide) (by decide) hv.t.t.h
        rw [if_neg (by decide)] at hws
        rw [List.map_cons, List.map_cons, List.map_cons, hup]
        exact va_cast X.1 X.2.1 X.2.2.2.2.2.1.1 hI.2.1 hI.2.2.1 hS (ob - 6) 1 hws rfl hin hd (fun H1 locs1 hP1 hD1 hS1 => (hK _ _ _ _ h).1 ad H1 locs1 ls (aInv_arr hI hkd (by decide) (by decide) (by decide) hv.t.t.h hP1 hD1) hS1 hL hv.t.t.t g1 g2 hn)
    · cases h
  · cases h
theorem as_lastore  (X : aFx p R s m args meth c G d k g0 o) (hK : aKok p l e R s m args below meth c Q G k g0 K o)  (hd : decode (aNm k).2.1 pc = .ok (.lastore, len)) (hl : aIl k pc (.lastore) len t a b z = true) (h : aAct C K d k (.lastore) len t a b z pc L st σ = some o) : aGo p l e R s m args below meth c Q G k g0 pc L st σ := by
  intro ad H locs ls hI hS hL hv g1 g2 hn
  obtain rfl : len = 1 := Nat.eq_of_beq_eq_true hl
  simp only [aAct] at h
  split at h
  · rename_i x j ob r
    split at h
    · rename_i hkd
      split at h
      · cases h
      · rename_i hin
        obtain ⟨h6, -, hws, hup, -⟩ := aArr hI hkd (by decide) (by decide) hv.t.t.h
        rw [if_pos (by decide)] at hws
        rw [List.map_cons, List.map_cons, List.map_cons, hup]
        exact va_last X.1 X.2.1 X.2.2.2.2.2.1.1 hI.2.1 hI.2.2.1 hS (ob - 6) 3 hws rfl hin hd (fun H1 locs1 hP1 hD1 hS1 => (hK _ _ _ _ h).1 ad H1 locs1 ls (aInv_arrL hI hkd hv.t.t.h hP1 hD1) hS1 hL hv.t.t.t g1 g2 hn)
    · cases h
  · cases h
theorem as_bastore  (X : aFx p R s m args meth c G d k g0 o) (hK : aKok p l e R s m args below meth c Q G k g0 K o)  (hd : decode (aNm k).2.1 pc = .ok (.bastore, len)) (hl : aIl k pc (.bastore) len t a b z = true) (h : aAct C K d k (.bastore) len t a b z pc L st σ = some o) : aGo p l e R s m args below meth c Q G k g0 pc L st σ := by
  intro ad H locs ls hI hS hL hv g1 g2 hn
  obtain rfl : len = 1 := Nat.eq_of_beq_eq_true hl
  simp only [aAct] at h
  split at h
  · rename_i x j ob r
    split at h
    · rename_i hkd
      split at h
      · cases h
      · rename_i hin
        obtain ⟨h6, -, hws, hup, -⟩ := aArr hI hkd (by decide) (by decide) hv.t.t.h
        rw [if_neg (by decide)] at hws
        rw [List.map_cons, List.map_cons, List.map_cons, hup]
        exact va_bast X.1 X.2.1 X.2.2.2.2.2.1.1 hI.2.1 hI.2.2.1 hS (ob - 6) 0 hws rfl hin hd (fun H1 locs1 hP1 hD1 hS1 => (hK _ _ _ _ h).1 ad H1 locs1 ls (aInv_arr hI hkd (by decide) (by decide) (by decide) hv.t.t.h hP1 hD1) hS1 hL hv.t.t.t g1 g2 hn)
    · split at h
      · rename_i hkd
        split at h
        · cases h
        · rename_i hin
          obtain ⟨h6, -, hws, hup, -⟩ := aArr hI hkd (by decide) (by decide) hv.t.t.h
          rw [if_neg (by decide)] at hws
          rw [List.map_cons, List.map_cons, List.map_cons, hup]
          exact va_zast X.1 X.2.1 X.2.2.2.2.2.1.1 hI.2.1 hI.2.2.1 hS (ob - 6) 4 hws rfl hin hd (fun H1 locs1 hP1 hD1 hS1 => (hK _ _ _ _ h).1 ad H1 locs1 ls (aInv_arr hI hkd (by decide) (by decide) (by decide) hv.t.t.h hP1 hD1) hS1 hL hv.t.t.t g1 g2 hn)
      · cases h
  · cases h
theorem as_arraylength  (X : aFx p R s m args meth c G d k g0 o) (hK : aKok p l e R s m args below meth c Q G k g0 K o)  (hd : decode (aNm k).2.1 pc = .ok (.arraylength, len)) (hl : aIl k pc (.arraylength) len t a b z = true) (h : aAct C K d k (.arraylength) len t a b z pc L st σ = some o) : aGo p l e R s m args below meth c Q G k g0 pc L st σ := by
  intro ad H locs ls hI hS hL hv g1 g2 hn
  obtain rfl : len = 1 := Nat.eq_of_beq_eq_true hl
  simp only [aAct] at h
  split at h
  · rename_i ob r
    split at h
    · rename_i hkd
      obtain ⟨k1, k2, k3⟩ := hkd
      have kk := (hK _ _ _ _ h).1 ad H locs ls hI hS hL (aVs.c trivial hv.t) g1 g2 hn
      rcases aKd_row ob (aKd_68 (by omega)) k1 k2 with hq | hkd | hkd | hkd
      · rcases (show aKd ob = 12 ∨ aKd ob = 13 ∨ aKd ob = 14 ∨ aKd ob = 15 ∨ aKd ob = 16 by omega) with hkd | hkd | hkd | hkd | hkd
        · obtain ⟨h6, -, hws, hup, hsz⟩ := aArr hI hkd (by decide) (by decide) hv.h
          rw [List.map_cons, hup]
          exact va_alen X.1 X.2.1 X.2.2.2.2.2.1.1 hI.2.1 (ob - 6) 0 hws rfl (by rw [hsz]) hd kk
        · obtain ⟨h6, -, hws, hup, hsz⟩ := aArr hI hkd (by decide) (by decide) hv.h
          rw [List.map_cons, hup]
          exact va_alen X.1 X.2.1 X.2.2.2.2.2.1.1 hI.2.1 (ob - 6) 1 hws rfl (by rw [hsz]) hd kk
        · obtain ⟨h6, -, hws, hup, hsz⟩ := aArr hI hkd (by decide) (by decide) hv.h
          rw [List.map_cons, hup]
          exact va_alen X.1 X.2.1 X.2.2.2.2.2.1.1 hI.2.1 (ob - 6) 2 hws rfl (by rw [hsz]) hd kk
        · obtain ⟨h6, -, hws, hup, hsz⟩ := aArr hI hkd (by decide) (by decide) hv.h
          rw [List.map_cons, hup]
          exact va_alen X.1 X.2.1 X.2.2.2.2.2.1.1 hI.2.1 (ob - 6) 3 hws rfl (by rw [hsz]) hd kk
        · obtain ⟨h6, -, hws, hup, hsz⟩ := aArr hI hkd (by decide) (by decide) hv.h
          rw [List.map_cons, hup]
          exact va_alen X.1 X.2.1 X.2.2.2.2.2.1.1 hI.2.1 (ob - 6) 4 hws rfl (by rw [hsz]) hd kk
      · obtain rfl := aKd_20 hkd
        obtain ⟨hX0, hnA⟩ := X.2.2.2.2.2.1.2.1
        have hsz : aSz σ 0 = G.2.2.2.2.2.1 := by unfold aSz; rw [if_pos rfl]; exact hI.2.2.2.2.2.2.1
        rw [hsz] at kk
        rw [List.map_cons, (aScr X).1]
        exact va_slen X.1 X.2.1 hX0 (aScr X (ad := ad)).2 hnA hS hd kk
      · exact absurd hkd k3
      · rcases aKd_22 hkd with rfl | rfl
        · exact va_tlen X.1 X.2.1 X.2.2.2.2.2.1.2.2.1.2.2.2 hS rfl hd kk
        · exact va_tlen X.1 X.2.1 X.2.2.2.2.2.1.2.2.2.1.2.2.2 hS rfl hd kk
    · cases h
  · cases h
theorem as_newarray_byte (X : aFx p R s m args meth c G d k g0 o) (hK : aKok p l e R s m args below meth c Q G k g0 K o) (hd : decode (aNm k).2.1 pc = .ok (.newarray .byte, len)) (hl : aIl k pc (.newarray .byte) len t a b z = true) (h : aAct C K d k (.newarray .byte) len t a b z pc L st σ = some o) : aGo p l e R s m args below meth c Q G k g0 pc L st σ := by
  intro ad H locs ls hI hS hL hv g1 g2 hn
  obtain rfl : len = 2 := Nat.eq_of_beq_eq_true hl
  simp only [aAct] at h
  split at h
  · rename_i n r
    split at h
    · cases h
    · rename_i hneg
      split at h
      · rename_i hkn
        obtain ⟨hkd, hln⟩ := hkn
        have hk1 := (hK _ _ _ _ h).2
        have r1 := X.2.2.2.2.2.2.2.2.2.2.1
        have r2 := X.2.2.2.2.2.2.2.2.2.2.2
        have h68 : σ.1.1 < 68 := aKd_68 (by rw [hkd]; decide)
        have hle := aLn_small _ h68
        have q1 : σ.1.2.1 + 1 ≤ o.2.1.2.1 := hk1.1
        have q2 : σ.1.2.2 + n.toNatClampNeg ≤ o.2.1.2.2 := hk1.2
        have hby : n.toNatClampNeg * componentBytes FieldType.byte ≤ 536870912 := by
          rw [← hln]
          have h8 : componentBytes FieldType.byte ≤ 8 := by decide
          exact Nat.le_trans (Nat.mul_le_mul hle h8) (by decide)
        refine va_newa (atype := .byte) X.1 X.2.1 (X.2.2.2.2.1 _ (aWd_in aArW.1)) (ty := .byte) rfl X.2.2.2.2.2.1.1 hI.2.1 hI.2.2.1 hS (fun q hq => Nat.le_trans X.2.2.2.2.2.2.1 hq) (N' := n.toNatClampNeg) (a0 := (n.toNatClampNeg, .inl (fun _ => 0))) (fun cA => rfl) hneg rfl hby (by omega) (by omega) hd (fun q cA H1 hK1 hP1 hD1 hS1 => ?_)
        have hcA : cA = G.2.1 12 := by
          have a1 : va_RA s cA .byte := (hK1.2 5 (cA, .byte) rfl).2
          have a2 : va_RA s (G.2.1 12) .byte := (X.2.2.2.2.2.1.1.2 0 (G.2.1 12, .byte) rfl).2
          exact Option.some.inj (a1.symm.trans a2)
        subst hcA
        have he : aEn G (ad ++ [q]) (aNew σ 1 n.toNatClampNeg) σ.1.1 = .inl (G.2.1 12, n.toNatClampNeg, .inl (fun _ => 0)) := by
          have hk2 : aKd σ.1.1 = 12 := hkd
          have z1 : σ.2.1 σ.1.1 = fun _ => 0 := funext fun j => (hI.2.2.2.2.1 σ.1.1 j (Nat.le_refl _)).1
          have z2 : σ.2.2.1 σ.1.1 = fun _ => 0 := funext fun j => (hI.2.2.2.2.1 σ.1.1 j (Nat.le_refl _)).2.1
          unfold aEn
          rw [if_neg (by rw [hk2]; decide), hk2, hln, if_neg (by decide)]
          first | exact congrArg (fun y => Sum.inl (G.2.1 12, n.toNatClampNeg, Sum.inl y)) z1 | exact congrArg (fun y => Sum.inl (G.2.1 12, n.toNatClampNeg, Sum.inr (Sum.inl y))) z2
        have hI1 := aInv_new hI he hP1 hD1
        have kk := (hK _ _ _ _ h).1 (ad ++ [q]) H1 locs ls hI1 hS1 (aLr_app [q] hI.1 (Nat.le_succ _) hL) (aVs.c (show σ.1.1 < σ.1.1 + 1 from Nat.lt_succ_self _) (fun v hv1 => aVk_le (Nat.le_succ _) (hv.t v hv1))) (Nat.le_trans g1 (Nat.le_succ _)) (Nat.le_trans g2 (Nat.le_add_right _ _)) hn
        rw [List.map_cons, aUp_map [q] hI.1 hv.t] at kk
        have e1 : (aNew σ 1 n.toNatClampNeg).1.2.1 - g0.1 = σ.1.2.1 - g0.1 + 1 := by simp [aNew]; omega
        have e2 : (aNew σ 1 n.toNatClampNeg).1.2.2 - g0.2 = σ.1.2.2 - g0.2 + n.toNatClampNeg := by simp [aNew]; omega
        rw [e1, e2, show aUp G (ad ++ [q]) (.ref σ.1.1) = .ref q by
          have h1 := hI.1
          rw [aUp_hi (by omega)]
          unfold aAdr
          rw [if_neg (by omega), show σ.1.1 - 6 = ad.length by omega]
          simp [List.getD_eq_getElem?_getD]] at kk
        exact kk
      · cases h
  · cases h
theorem as_newarray_char (X : aFx p R s m args meth c G d k g0 o) (hK : aKok p l e R s m args below meth c Q G k g0 K o) (hd : decode (aNm k).2.1 pc = .ok (.newarray .char, len)) (hl : aIl k pc (.newarray .char) len t a b z = true) (h : aAct C K d k (.newarray .char) len t a b z pc L st σ = some o) : aGo p l e R s m args below meth c Q G k g0 pc L st σ := by
  intro ad H locs ls hI hS hL hv g1 g2 hn
  obtain rfl : len = 2 := Nat.eq_of_beq_eq_true hl
  simp only [aAct] at h
  split at h
  · rename_i n r
    split at h
    · cases h
    · rename_i hneg
      split at h
      · rename_i hkn
        obtain ⟨hkd, hln⟩ := hkn
        have hk1 := (hK _ _ _ _ h).2
        have r1 := X.2.2.2.2.2.2.2.2.2.2.1
        have r2 := X.2.2.2.2.2.2.2.2.2.2.2
        have h68 : σ.1.1 < 68 := aKd_68 (by rw [hkd]; decide)
        have hle := aLn_small _ h68
        have q1 : σ.1.2.1 + 1 ≤ o.2.1.2.1 := hk1.1
        have q2 : σ.1.2.2 + n.toNatClampNeg ≤ o.2.1.2.2 := hk1.2
        have hby : n.toNatClampNeg * componentBytes FieldType.char ≤ 536870912 := by
          rw [← hln]
          have h8 : componentBytes FieldType.char ≤ 8 := by decide
          exact Nat.le_trans (Nat.mul_le_mul hle h8) (by decide)
        refine va_newa (atype := .char) X.1 X.2.1 (X.2.2.2.2.1 _ (aWd_in aArW.2.1)) (ty := .char) rfl X.2.2.2.2.2.1.1 hI.2.1 hI.2.2.1 hS (fun q hq => Nat.le_trans X.2.2.2.2.2.2.1 hq) (N' := n.toNatClampNeg) (a0 := (n.toNatClampNeg, .inl (fun _ => 0))) (fun cA => rfl) hneg rfl hby (by omega) (by omega) hd (fun q cA H1 hK1 hP1 hD1 hS1 => ?_)
        have hcA : cA = G.2.1 13 := by
          have a1 : va_RA s cA .char := (hK1.2 5 (cA, .char) rfl).2
          have a2 : va_RA s (G.2.1 13) .char := (X.2.2.2.2.2.1.1.2 1 (G.2.1 13, .char) rfl).2
          exact Option.some.inj (a1.symm.trans a2)
        subst hcA
        have he : aEn G (ad ++ [q]) (aNew σ 1 n.toNatClampNeg) σ.1.1 = .inl (G.2.1 13, n.toNatClampNeg, .inl (fun _ => 0)) := by
          have hk2 : aKd σ.1.1 = 13 := hkd
          have z1 : σ.2.1 σ.1.1 = fun _ => 0 := funext fun j => (hI.2.2.2.2.1 σ.1.1 j (Nat.le_refl _)).1
          have z2 : σ.2.2.1 σ.1.1 = fun _ => 0 := funext fun j => (hI.2.2.2.2.1 σ.1.1 j (Nat.le_refl _)).2.1
          unfold aEn
          rw [if_neg (by rw [hk2]; decide), hk2, hln, if_neg (by decide)]
          first | exact congrArg (fun y => Sum.inl (G.2.1 13, n.toNatClampNeg, Sum.inl y)) z1 | exact congrArg (fun y => Sum.inl (G.2.1 13, n.toNatClampNeg, Sum.inr (Sum.inl y))) z2
        have hI1 := aInv_new hI he hP1 hD1
        have kk := (hK _ _ _ _ h).1 (ad ++ [q]) H1 locs ls hI1 hS1 (aLr_app [q] hI.1 (Nat.le_succ _) hL) (aVs.c (show σ.1.1 < σ.1.1 + 1 from Nat.lt_succ_self _) (fun v hv1 => aVk_le (Nat.le_succ _) (hv.t v hv1))) (Nat.le_trans g1 (Nat.le_succ _)) (Nat.le_trans g2 (Nat.le_add_right _ _)) hn
        rw [List.map_cons, aUp_map [q] hI.1 hv.t] at kk
        have e1 : (aNew σ 1 n.toNatClampNeg).1.2.1 - g0.1 = σ.1.2.1 - g0.1 + 1 := by simp [aNew]; omega
        have e2 : (aNew σ 1 n.toNatClampNeg).1.2.2 - g0.2 = σ.1.2.2 - g0.2 + n.toNatClampNeg := by simp [aNew]; omega
        rw [e1, e2, show aUp G (ad ++ [q]) (.ref σ.1.1) = .ref q by
          have h1 := hI.1
          rw [aUp_hi (by omega)]
          unfold aAdr
          rw [if_neg (by omega), show σ.1.1 - 6 = ad.length by omega]
          simp [List.getD_eq_getElem?_getD]] at kk
        exact kk
      · cases h
  · cases h
theorem as_newarray_int (X : aFx p R s m args meth c G d k g0 o) (hK : aKok p l e R s m args below meth c Q G k g0 K o) (hd : decode (aNm k).2.1 pc = .ok (.newarray .int, len)) (hl : aIl k pc (.newarray .int) len t a b z = true) (h : aAct C K d k (.newarray .int) len t a b z pc L st σ = some o) : aGo p l e R s m args below meth c Q G k g0 pc L st σ := by
  intro ad H locs ls hI hS hL hv g1 g2 hn
  obtain rfl : len = 2 := Nat.eq_of_beq_eq_true hl
  simp only [aAct] at h
  split at h
  · rename_i n r
    split at h
    · cases h
    · rename_i hneg
      split at h
      · rename_i hkn
        obtain ⟨hkd, hln⟩ := hkn
        have hk1 := (hK _ _ _ _ h).2
        have r1 := X.2.2.2.2.2.2.2.2.2.2.1
        have r2 := X.2.2.2.2.2.2.2.2.2.2.2
        have h68 : σ.1.1 < 68 := aKd_68 (by rw [hkd]; decide)
        have hle := aLn_small _ h68
        have q1 : σ.1.2.1 + 1 ≤ o.2.1.2.1 := hk1.1
        have q2 : σ.1.2.2 + n.toNatClampNeg ≤ o.2.1.2.2 := hk1.2
        have hby : n.toNatClampNeg * componentBytes FieldType.int ≤ 536870912 := by
          rw [← hln]
          have h8 : componentBytes FieldType.int ≤ 8 := by decide
          exact Nat.le_trans (Nat.mul_le_mul hle h8) (by decide)
        refine va_newa (atype := .int) X.1 X.2.1 (X.2.2.2.2.1 _ (aWd_in aArW.2.2.1)) (ty := .int) rfl X.2.2.2.2.2.1.1 hI.2.1 hI.2.2.1 hS (fun q hq => Nat.le_trans X.2.2.2.2.2.2.1 hq) (N' := n.toNatClampNeg) (a0 := (n.toNatClampNeg, .inl (fun _ => 0))) (fun cA => rfl) hneg rfl hby (by omega) (by omega) hd (fun q cA H1 hK1 hP1 hD1 hS1 => ?_)
        have hcA : cA = G.2.1 14 := by
          have a1 : va_RA s cA .int := (hK1.2 5 (cA, .int) rfl).2
          have a2 : va_RA s (G.2.1 14) .int := (X.2.2.2.2.2.1.1.2 2 (G.2.1 14, .int) rfl).2
          exact Option.some.inj (a1.symm.trans a2)
        subst hcA
        have he : aEn G (ad ++ [q]) (aNew σ 1 n.toNatClampNeg) σ.1.1 = .inl (G.2.1 14, n.toNatClampNeg, .inl (fun _ => 0)) := by
          have hk2 : aKd σ.1.1 = 14 := hkd
          have z1 : σ.2.1 σ.1.1 = fun _ => 0 := funext fun j => (hI.2.2.2.2.1 σ.1.1 j (Nat.le_refl _)).1
          have z2 : σ.2.2.1 σ.1.1 = fun _ => 0 := funext fun j => (hI.2.2.2.2.1 σ.1.1 j (Nat.le_refl _)).2.1
          unfold aEn
          rw [if_neg (by rw [hk2]; decide), hk2, hln, if_neg (by decide)]
          first | exact congrArg (fun y => Sum.inl (G.2.1 14, n.toNatClampNeg, Sum.inl y)) z1 | exact congrArg (fun y => Sum.inl (G.2.1 14, n.toNatClampNeg, Sum.inr (Sum.inl y))) z2
        have hI1 := aInv_new hI he hP1 hD1
        have kk := (hK _ _ _ _ h).1 (ad ++ [q]) H1 locs ls hI1 hS1 (aLr_app [q] hI.1 (Nat.le_succ _) hL) (aVs.c (show σ.1.1 < σ.1.1 + 1 from Nat.lt_succ_self _) (fun v hv1 => aVk_le (Nat.le_succ _) (hv.t v hv1))) (Nat.le_trans g1 (Nat.le_succ _)) (Nat.le_trans g2 (Nat.le_add_right _ _)) hn
        rw [List.map_cons, aUp_map [q] hI.1 hv.t] at kk
        have e1 : (aNew σ 1 n.toNatClampNeg).1.2.1 - g0.1 = σ.1.2.1 - g0.1 + 1 := by simp [aNew]; omega
        have e2 : (aNew σ 1 n.toNatClampNeg).1.2.2 - g0.2 = σ.1.2.2 - g0.2 + n.toNatClampNeg := by simp [aNew]; omega
        rw [e1, e2, show aUp G (ad ++ [q]) (.ref σ.1.1) = .ref q by
          have h1 := hI.1
          rw [aUp_hi (by omega)]
          unfold aAdr
          rw [if_neg (by omega), show σ.1.1 - 6 = ad.length by omega]
          simp [List.getD_eq_getElem?_getD]] at kk
        exact kk
      · cases h
  · cases h
theorem as_newarray_long (X : aFx p R s m args meth c G d k g0 o) (hK : aKok p l e R s m args below meth c Q G k g0 K o) (hd : decode (aNm k).2.1 pc = .ok (.newarray .long, len)) (hl : aIl k pc (.newarray .long) len t a b z = true) (h : aAct C K d k (.newarray .long) len t a b z pc L st σ = some o) : aGo p l e R s m args below meth c Q G k g0 pc L st σ := by
  intro ad H locs ls hI hS hL hv g1 g2 hn
  obtain rfl : len = 2 := Nat.eq_of_beq_eq_true hl
  simp only [aAct] at h
  split at h
  · rename_i n r
    split at h
    · cases h
    · rename_i hneg
      split at h
      · rename_i hkn
        obtain ⟨hkd, hln⟩ := hkn
        have hk1 := (hK _ _ _ _ h).2
        have r1 := X.2.2.2.2.2.2.2.2.2.2.1
        have r2 := X.2.2.2.2.2.2.2.2.2.2.2
        have h68 : σ.1.1 < 68 := aKd_68 (by rw [hkd]; decide)
        have hle := aLn_small _ h68
        have q1 : σ.1.2.1 + 1 ≤ o.2.1.2.1 := hk1.1
        have q2 : σ.1.2.2 + n.toNatClampNeg ≤ o.2.1.2.2 := hk1.2
        have hby : n.toNatClampNeg * componentBytes FieldType.long ≤ 536870912 := by
          rw [← hln]
          have h8 : componentBytes FieldType.long ≤ 8 := by decide
          exact Nat.le_trans (Nat.mul_le_mul hle h8) (by decide)
        refine va_newa (atype := .long) X.1 X.2.1 (X.2.2.2.2.1 _ (aWd_in aArW.2.2.2.1)) (ty := .long) rfl X.2.2.2.2.2.1.1 hI.2.1 hI.2.2.1 hS (fun q hq => Nat.le_trans X.2.2.2.2.2.2.1 hq) (N' := n.toNatClampNeg) (a0 := (n.toNatClampNeg, .inr (.inl (fun _ => 0)))) (fun cA => rfl) hneg rfl hby (by omega) (by omega) hd (fun q cA H1 hK1 hP1 hD1 hS1 => ?_)
        have hcA : cA = G.2.1 15 := by
          have a1 : va_RA s cA .long := (hK1.2 5 (cA, .long) rfl).2
          have a2 : va_RA s (G.2.1 15) .long := (X.2.2.2.2.2.1.1.2 3 (G.2.1 15, .long) rfl).2
          exact Option.some.inj (a1.symm.trans a2)
        subst hcA
        have he : aEn G (ad ++ [q]) (aNew σ 1 n.toNatClampNeg) σ.1.1 = .inl (G.2.1 15, n.toNatClampNeg, .inr (.inl (fun _ => 0))) := by
          have hk2 : aKd σ.1.1 = 15 := hkd
          have z1 : σ.2.1 σ.1.1 = fun _ => 0 := funext fun j => (hI.2.2.2.2.1 σ.1.1 j (Nat.le_refl _)).1
          have z2 : σ.2.2.1 σ.1.1 = fun _ => 0 := funext fun j => (hI.2.2.2.2.1 σ.1.1 j (Nat.le_refl _)).2.1
          unfold aEn
          rw [if_neg (by rw [hk2]; decide), hk2, hln, if_pos (by decide)]
          first | exact congrArg (fun y => Sum.inl (G.2.1 15, n.toNatClampNeg, Sum.inl y)) z1 | exact congrArg (fun y => Sum.inl (G.2.1 15, n.toNatClampNeg, Sum.inr (Sum.inl y))) z2
        have hI1 := aInv_new hI he hP1 hD1
        have kk := (hK _ _ _ _ h).1 (ad ++ [q]) H1 locs ls hI1 hS1 (aLr_app [q] hI.1 (Nat.le_succ _) hL) (aVs.c (show σ.1.1 < σ.1.1 + 1 from Nat.lt_succ_self _) (fun v hv1 => aVk_le (Nat.le_succ _) (hv.t v hv1))) (Nat.le_trans g1 (Nat.le_succ _)) (Nat.le_trans g2 (Nat.le_add_right _ _)) hn
        rw [List.map_cons, aUp_map [q] hI.1 hv.t] at kk
        have e1 : (aNew σ 1 n.toNatClampNeg).1.2.1 - g0.1 = σ.1.2.1 - g0.1 + 1 := by simp [aNew]; omega
        have e2 : (aNew σ 1 n.toNatClampNeg).1.2.2 - g0.2 = σ.1.2.2 - g0.2 + n.toNatClampNeg := by simp [aNew]; omega
        rw [e1, e2, show aUp G (ad ++ [q]) (.ref σ.1.1) = .ref q by
          have h1 := hI.1
          rw [aUp_hi (by omega)]
          unfold aAdr
          rw [if_neg (by omega), show σ.1.1 - 6 = ad.length by omega]
          simp [List.getD_eq_getElem?_getD]] at kk
        exact kk
      · cases h
  · cases h
theorem as_newarray_boolean (X : aFx p R s m args meth c G d k g0 o) (hK : aKok p l e R s m args below meth c Q G k g0 K o) (hd : decode (aNm k).2.1 pc = .ok (.newarray .boolean, len)) (hl : aIl k pc (.newarray .boolean) len t a b z = true) (h : aAct C K d k (.newarray .boolean) len t a b z pc L st σ = some o) : aGo p l e R s m args below meth c Q G k g0 pc L st σ := by
  intro ad H locs ls hI hS hL hv g1 g2 hn
  obtain rfl : len = 2 := Nat.eq_of_beq_eq_true hl
  simp only [aAct] at h
  split at h
  · rename_i n r
    split at h
    · cases h
    · rename_i hneg
      split at h
      · rename_i hkn
        obtain ⟨hkd, hln⟩ := hkn
        have hk1 := (hK _ _ _ _ h).2
        have r1 := X.2.2.2.2.2.2.2.2.2.2.1
        have r2 := X.2.2.2.2.2.2.2.2.2.2.2
        have h68 : σ.1.1 < 68 := aKd_68 (by rw [hkd]; decide)
        have hle := aLn_small _ h68
        have q1 : σ.1.2.1 + 1 ≤ o.2.1.2.1 := hk1.1
        have q2 : σ.1.2.2 + n.toNatClampNeg ≤ o.2.1.2.2 := hk1.2
        have hby : n.toNatClampNeg * componentBytes FieldType.boolean ≤ 536870912 := by
          rw [← hln]
          have h8 : componentBytes FieldType.boolean ≤ 8 := by decide
          exact Nat.le_trans (Nat.mul_le_mul hle h8) (by decide)
        refine va_newa (atype := .boolean) X.1 X.2.1 (X.2.2.2.2.1 _ (aWd_in aArW.2.2.2.2)) (ty := .boolean) rfl X.2.2.2.2.2.1.1 hI.2.1 hI.2.2.1 hS (fun q hq => Nat.le_trans X.2.2.2.2.2.2.1 hq) (N' := n.toNatClampNeg) (a0 := (n.toNatClampNeg, .inl (fun _ => 0))) (fun cA => rfl) hneg rfl hby (by omega) (by omega) hd (fun q cA H1 hK1 hP1 hD1 hS1 => ?_)
        have hcA : cA = G.2.1 16 := by
          have a1 : va_RA s cA .boolean := (hK1.2 5 (cA, .boolean) rfl).2
          have a2 : va_RA s (G.2.1 16) .boolean := (X.2.2.2.2.2.1.1.2 4 (G.2.1 16, .boolean) rfl).2
          exact Option.some.inj (a1.symm.trans a2)
        subst hcA
        have he : aEn G (ad ++ [q]) (aNew σ 1 n.toNatClampNeg) σ.1.1 = .inl (G.2.1 16, n.toNatClampNeg, .inl (fun _ => 0)) := by
          have hk2 : aKd σ.1.1 = 16 := hkd
          have z1 : σ.2.1 σ.1.1 = fun _ => 0 := funext fun j => (hI.2.2.2.2.1 σ.1.1 j (Nat.le_refl _)).1
          have z2 : σ.2.2.1 σ.1.1 = fun _ => 0 := funext fun j => (hI.2.2.2.2.1 σ.1.1 j (Nat.le_refl _)).2.1
          unfold aEn
          rw [if_neg (by rw [hk2]; decide), hk2, hln, if_neg (by decide)]
          first | exact congrArg (fun y => Sum.inl (G.2.1 16, n.toNatClampNeg, Sum.inl y)) z1 | exact congrArg (fun y => Sum.inl (G.2.1 16, n.toNatClampNeg, Sum.inr (Sum.inl y))) z2
        have hI1 := aInv_new hI he hP1 hD1
        have kk := (hK _ _ _ _ h).1 (ad ++ [q]) H1 locs ls hI1 hS1 (aLr_app [q] hI.1 (Nat.le_succ _) hL) (aVs.c (show σ.1.1 < σ.1.1 + 1 from Nat.lt_succ_self _) (fun v hv1 => aVk_le (Nat.le_succ _) (hv.t v hv1))) (Nat.le_trans g1 (Nat.le_succ _)) (Nat.le_trans g2 (Nat.le_add_right _ _)) hn
        rw [List.map_cons, aUp_map [q] hI.1 hv.t] at kk
        have e1 : (aNew σ 1 n.toNatClampNeg).1.2.1 - g0.1 = σ.1.2.1 - g0.1 + 1 := by simp [aNew]; omega
        have e2 : (aNew σ 1 n.toNatClampNeg).1.2.2 - g0.2 = σ.1.2.2 - g0.2 + n.toNatClampNeg := by simp [aNew]; omega
        rw [e1, e2, show aUp G (ad ++ [q]) (.ref σ.1.1) = .ref q by
          have h1 := hI.1
          rw [aUp_hi (by omega)]
          unfold aAdr
          rw [if_neg (by omega), show σ.1.1 - 6 = ad.length by omega]
          simp [List.getD_eq_getElem?_getD]] at kk
        exact kk
      · cases h
  · cases h
end Snd1
end
section
/-! new objects, constants, the JDK's own rows -/
theorem aCW_all : ∀ a, a < 12 → ∃ p1 p2, (a, p1, p2) ∈ aCW := by
  intro a ha
  have : ∀ a, a < 12 → aCW.any (fun q => Nat.beq q.1 a) = true := by decide +kernel
  obtain ⟨⟨c, p1, p2⟩, h1, h2⟩ := List.any_eq_true.mp (this a ha)
  cases Nat.eq_of_beq_eq_true h2
  exact ⟨p1, p2, h1⟩
theorem aCW_w {a N : Nat} {C : String} {T : u_T} (hc : vwCl[a]? = some (C, T, N)) : Cond.instantiable C N ∈ aTb ∧ Cond.initialized C ∈ aTb := by
  obtain ⟨p1, p2, h1⟩ := aCW_all a (List.getElem?_eq_some_iff.mp hc).1
  have h2 := aCW_ok _ h1
  unfold aCWk at h2
  dsimp only at h2
  rw [hc] at h2
  dsimp only at h2
  rw [Bool.and_eq_true] at h2
  exact ⟨aWd_in h2.1, aWd_in h2.2⟩
theorem aTc_all : ∀ c, c < 12 → (List.range ((vwCl[c]?).elim 0 (fun q => q.2.2))).all (fun j => decide (aTc ((aTyF.getD c tyX0) j) < 5)) = true := by decide +kernel
theorem aTc_5 {c N j : Nat} {C : String} {T : u_T} (hc : vwCl[c]? = some (C, T, N)) (hj : j < N) : aTc ((aTyF.getD c tyX0) j) < 5 := by
  have h := aTc_all c (List.getElem?_eq_some_iff.mp hc).1
  rw [hc] at h
  exact of_decide_eq_true (List.all_eq_true.mp h j (List.mem_range.mpr hj))
theorem aDef {G : aEnv} {ad : List Nat} {ty : FieldType} (h : aTc ty < 5) : defaultValue ty = aFv G ad ty 0 0 := by
  cases ty <;> first | rfl | (simp [aTc] at h)
theorem aFv_00 {G : aEnv} {ad ad' : List Nat} {ty : FieldType} : aFv G ad ty 0 0 = aFv G ad' ty 0 0 := by
  unfold aFv
  split <;> rfl
theorem aOI_ok : ∀ q ∈ aOI, aWd q.2.2 (.methodLink (aOw q.1) q.2.1 Lib.objectInit) = true := by decide +kernel
theorem aOI_w : aWd 110 (.instanceMethod Lib.objectInit) = true ∧ aWd 111 (.code Lib.objectInit ⟨#[0xb1]⟩ 1 none) = true := by decide +kernel
theorem aAC_ok : ∀ q ∈ aAC, aWd q.2.2 (.methodLink (aOw q.1) q.2.1 arraycopyName) = true := by decide +kernel
theorem aAC_w : aWd 663 (.native arraycopyName) = true ∧ aWd 662 (.static arraycopyName) = true ∧ aWd 98 (.initialized "java/lang/System") = true := by decide +kernel
theorem aMX_ok : ∀ q ∈ aMX, (q.2.2.1 = 17 ∧ aWd q.2.2.2 (.methodLink (aOw q.1) q.2.1 Lib.Math.max.name) = true) ∨ (q.2.2.1 = 18 ∧ aWd q.2.2.2 (.methodLink (aOw q.1) q.2.1 Lib.Math.min.name) = true) := by decide +kernel
theorem aMX_w : aWd 455 (.static Lib.Math.max.name) = true ∧ aWd 456 (.code Lib.Math.max.name Lib.Math.max.code 2 (some .int)) = true ∧ aWd 458 (.static Lib.Math.min.name) = true ∧ aWd 459 (.code Lib.Math.min.name Lib.Math.min.code 2 (some .int)) = true ∧ aWd 95 (.initialized "java/lang/Math") = true := by decide +kernel
theorem aW_map {G : aEnv} {ad : List Nat} (r : List Value) : ((r.map (aUp G ad)).map fun v => v.category).sum = aW r := by
  unfold aW
  rw [List.map_map]
  congr 1
  exact List.map_congr_left fun v _ => aUp_cat v
section Snd1
variable {p : Program} {l : Launch} {e : Env} {R : Room} {s : State} {m : MethodId} {args : Array Value} {below : List Frame} {meth : Method} {c : Code} {Q : State → Prop} {G : aEnv} {d k : Nat} {g0 : Nat × Nat} {C : Nat → Nat → List Value → aS → Option aO} {K : Nat → List Value → List Value → aS → Option aO} {o : aO} {len t a b : Nat} {z : Int} {pc : Nat} {L st : List Value} {σ : aS}

theorem aldcSw {cc : ByteArray} {H : Heap} {locs : List Loc} {cells slots : Nat} {ls : Array Slot} {rest : List Value} (hexec : p.tables.exec = Jvm.exec) (hb : c.code = cc) {own tx : String} {index q : Nat} (hown : s.vm.findClass own = some m.cls) (hZ : vk_R own index tx q s) (hdg : decode cc pc = .ok (.ldc_w index, 3))
    (k : W p l e R s m args below meth c H locs cells slots Q (F0 m (pc + 3) ls (.ref q :: rest))) : W p l e R s m args below meth c H locs cells slots Q (F0 m pc ls rest) := by
  intro T hT X
  obtain ⟨t, a1, b1⟩ := k T hT X
  refine ⟨t, ?_, b1⟩
  have hrest := a1
  have hdg' : decode c.code (F0 m pc ls rest).pc = .ok (.ldc_w index, 3) := by rw [hb]; exact hdg
  obtain ⟨k, cf, i, a', hk, hcf, hcp, -, hr, hev'⟩ := Cond.stringRef_spec hown (args := #[]) hZ.1
  cases hZ.2.symm.trans hev'
  obtain ⟨k', hk', he⟩ := X.warmed.alike.2.2 _ _ hk
  have hr' : k'.resolved[index]? = some (some (.string q)) := by
    rcases X.warmed.entry hk hk' index with h | ⟨h, -⟩
    · rw [h]; exact hr
    · rw [hr] at h; cases h
  jvm_step X.here [hexec, hdg', ldc_w.wp_string (e := e) (s := T) (f := F0 m pc ls rest) X.here.top hk' (by rw [he]; exact hcf) hcp hr']
  exact hrest
theorem as_ldc {ix : Nat} (X : aFx p R s m args meth c G d k g0 o) (hK : aKok p l e R s m args below meth c Q G k g0 K o)  (hd : decode (aNm k).2.1 pc = .ok (.ldc ix, len)) (hl : aIl k pc (.ldc ix) len t a b z = true) (h : aAct C K d k (.ldc ix) len t a b z pc L st σ = some o) : aGo p l e R s m args below meth c Q G k g0 pc L st σ := by
  intro ad H locs ls hI hS hL hv g1 g2 hn
  unfold aIl at hl
  dsimp only at hl
  rw [Bool.and_eq_true] at hl
  obtain ⟨hl0, hl⟩ := hl
  obtain rfl : len = 2 := Nat.eq_of_beq_eq_true hl0
  simp only [aAct] at h
  split at h
  · exact lv_ldc X.1 X.2.1 X.2.2.2.1 (X.2.2.2.2.1 _ (aInKI_w hl)) hd ((hK _ _ _ _ h).1 ad H locs ls hI hS hL (aVs.c trivial hv) g1 g2 hn)
  · have hq := aIn3_get hl
    have ha := aKS_ok _ hq
    dsimp only at ha
    obtain ⟨tx, hz⟩ := X.2.2.2.2.2.1.2.2.2.2.2.2.1 _ hq
    have kk := (hK _ _ _ _ h).1 ad H locs ls hI hS hL (aVs.c (show a < σ.1.1 by have := hI.2.2.2.2.2.1; omega) hv) g1 g2 hn
    rw [List.map_cons, show aUp G ad (.ref a) = .ref (G.2.2.2.1 a) from aUp_lo (by omega)] at kk
    exact va_ldcS X.1 X.2.1 X.2.2.2.1 hz hd kk
  · cases h
theorem as_ldc_w {ix : Nat} (X : aFx p R s m args meth c G d k g0 o) (hK : aKok p l e R s m args below meth c Q G k g0 K o)  (hd : decode (aNm k).2.1 pc = .ok (.ldc_w ix, len)) (hl : aIl k pc (.ldc_w ix) len t a b z = true) (h : aAct C K d k (.ldc_w ix) len t a b z pc L st σ = some o) : aGo p l e R s m args below meth c Q G k g0 pc L st σ := by
  intro ad H locs ls hI hS hL hv g1 g2 hn
  unfold aIl at hl
  dsimp only at hl
  rw [Bool.and_eq_true] at hl
  obtain ⟨hl0, hl⟩ := hl
  obtain rfl : len = 3 := Nat.eq_of_beq_eq_true hl0
  simp only [aAct] at h
  split at h
  · exact lv_ldcw X.1 X.2.1 X.2.2.2.1 (X.2.2.2.2.1 _ (aInKI_w hl)) hd ((hK _ _ _ _ h).1 ad H locs ls hI hS hL (aVs.c trivial hv) g1 g2 hn)
  · have hq := aIn3_get hl
    have ha := aKS_ok _ hq
    dsimp only at ha
    obtain ⟨tx, hz⟩ := X.2.2.2.2.2.1.2.2.2.2.2.2.1 _ hq
    have kk := (hK _ _ _ _ h).1 ad H locs ls hI hS hL (aVs.c (show a < σ.1.1 by have := hI.2.2.2.2.2.1; omega) hv) g1 g2 hn
    rw [List.map_cons, show aUp G ad (.ref a) = .ref (G.2.2.2.1 a) from aUp_lo (by omega)] at kk
    exact aldcSw X.1 X.2.1 X.2.2.2.1 hz hd kk
  · cases h
theorem as_ldc2_w {ix : Nat} (X : aFx p R s m args meth c G d k g0 o) (hK : aKok p l e R s m args below meth c Q G k g0 K o)  (hd : decode (aNm k).2.1 pc = .ok (.ldc2_w ix, len)) (hl : aIl k pc (.ldc2_w ix) len t a b z = true) (h : aAct C K d k (.ldc2_w ix) len t a b z pc L st σ = some o) : aGo p l e R s m args below meth c Q G k g0 pc L st σ := by
  intro ad H locs ls hI hS hL hv g1 g2 hn
  unfold aIl at hl
  dsimp only at hl
  rw [Bool.and_eq_true] at hl
  obtain ⟨hl0, hl⟩ := hl
  obtain rfl : len = 3 := Nat.eq_of_beq_eq_true hl0
  simp only [aAct] at h
  split at h
  · exact lv_ldc2 X.1 X.2.1 X.2.2.2.1 (X.2.2.2.2.1 _ (aInKL_w hl)) hd ((hK _ _ _ _ h).1 ad H locs ls hI hS hL (aVs.c trivial hv) g1 g2 hn)
  · cases h
theorem as_getstatic {ix : Nat} (X : aFx p R s m args meth c G d k g0 o) (hK : aKok p l e R s m args below meth c Q G k g0 K o)  (hd : decode (aNm k).2.1 pc = .ok (.getstatic ix, len)) (hl : aIl k pc (.getstatic ix) len t a b z = true) (h : aAct C K d k (.getstatic ix) len t a b z pc L st σ = some o) : aGo p l e R s m args below meth c Q G k g0 pc L st σ := by
  intro ad H locs ls hI hS hL hv g1 g2 hn
  unfold aIl at hl
  dsimp only at hl
  rw [Bool.and_eq_true] at hl
  obtain ⟨hl0, hl⟩ := hl
  obtain rfl : len = 3 := Nat.eq_of_beq_eq_true hl0
  simp only [aAct] at h
  split at h
  · obtain ⟨q, hq⟩ := aInM_get hl
    have hw : Cond.fieldLink (aOw (aOn k)) ix "java/lang/String" "COMPACT_STRINGS" "Z" ∈ aTb := by
      rcases aGS_ok _ hq with ⟨-, y⟩ | ⟨y, -⟩
      · exact aWd_in y
      · dsimp only at y; omega
    exact va_gets X.1 X.2.1 X.2.2.2.2.2.1.2.2.2.2.1 hS X.2.2.2.1 (X.2.2.2.2.1 _ hw) (fun _ q => q) hd ((hK _ _ _ _ h).1 ad H locs ls hI hS hL (aVs.c trivial hv) g1 g2 hn)
  · obtain ⟨q, hq⟩ := aInM_get hl
    have hw : Cond.fieldLink (aOw (aOn k)) ix "jdk/internal/util/Preconditions" "SIOOBE_FORMATTER" "Ljava/util/function/BiFunction;" ∈ aTb := by
      rcases aGS_ok _ hq with ⟨y, -⟩ | ⟨-, y⟩
      · dsimp only at y; omega
      · exact aWd_in y
    exact va_gets X.1 X.2.1 X.2.2.2.2.2.1.2.2.2.2.2.1 hS X.2.2.2.1 (X.2.2.2.2.1 _ hw) (fun _ q => q) hd ((hK _ _ _ _ h).1 ad H locs ls hI hS hL (aVs.c (show 5 < σ.1.1 by have := hI.2.2.2.2.2.1; omega) hv) g1 g2 hn)
  · cases h
theorem as_new12 {ix : Nat} (X : aFx p R s m args meth c G d k g0 o) (hK : aKok p l e R s m args below meth c Q G k g0 K o) (hd : decode (aNm k).2.1 pc = .ok (.new ix, len)) (hl : aIl k pc (.new ix) len 12 a b z = true) (h : aAct C K d k (.new ix) len 12 a b z pc L st σ = some o) : aGo p l e R s m args below meth c Q G k g0 pc L st σ := by
  intro ad H locs ls hI hS hL hv g1 g2 hn
  unfold aIl at hl
  dsimp only at hl
  rw [Bool.and_eq_true] at hl
  obtain ⟨hl0, hl⟩ := hl
  obtain rfl : len = 3 := Nat.eq_of_beq_eq_true hl0
  simp only [aAct] at h
  split at h
  · rename_i hkn
    obtain ⟨hkd, hln⟩ := hkn
    obtain ⟨Cn, T, hc, hw⟩ := aInC_w hl
    obtain ⟨hw1, hw2⟩ := aCW_w hc
    obtain ⟨-, htys, -⟩ := aCl hc
    have ha : a < 12 := (List.getElem?_eq_some_iff.mp hc).1
    have hk1 := (hK _ _ _ _ h).2
    have r1 := X.2.2.2.2.2.2.2.2.2.2.1
    have r2 := X.2.2.2.2.2.2.2.2.2.2.2
    have q1 : σ.1.2.1 + 1 ≤ o.2.1.2.1 := hk1.1
    have q2 : σ.1.2.2 + b ≤ o.2.1.2.2 := hk1.2
    refine va_new X.1 X.2.1 X.2.2.2.2.1 (aCl_tb hc) _ htys X.2.2.2.1 (X.2.2.2.2.1 _ hw) (X.2.2.2.2.1 _ hw1) (X.2.2.2.2.1 _ hw2) X.2.2.2.2.2.1.1 hI.2.1 hI.2.2.1 hS (fun q hq => Nat.le_trans X.2.2.2.2.2.2.1 hq) hc (fs := (List.range b).map (fun j => aFv G ad ((aTyF.getD a tyX0) j) 0 0)) (fun j hj => by rw [aDef (G := G) (ad := ad) (aTc_5 hc hj)]; simp [vp_V, hj]) (by omega) (by omega) hd (fun q H1 hP1 hD1 hS1 => ?_)
    have he : aEn G (ad ++ [q]) (aNew σ 1 b) σ.1.1 = .inr (a, (List.range b).map (fun j => aFv G ad ((aTyF.getD a tyX0) j) 0 0)) := by
      unfold aEn
      rw [if_pos (by rw [hkd]; exact ha), hkd, hln]
      refine congrArg (fun y => Sum.inr (a, y)) (List.map_congr_left fun j _ => ?_)
      show aFv G (ad ++ [q]) _ (σ.2.1 σ.1.1 j) (σ.2.2.2 σ.1.1 j) = _
      obtain ⟨z1, -, z3⟩ := hI.2.2.2.2.1 σ.1.1 j (Nat.le_refl _)
      rw [z1, z3]
      exact aFv_00
    have hI1 := aInv_new hI he hP1 hD1
    have kk := (hK _ _ _ _ h).1 (ad ++ [q]) H1 locs ls hI1 hS1 (aLr_app [q] hI.1 (Nat.le_succ _) hL) (aVs.c (show σ.1.1 < σ.1.1 + 1 from Nat.lt_succ_self _) (fun v hv1 => aVk_le (Nat.le_succ _) (hv v hv1))) (Nat.le_trans g1 (Nat.le_succ _)) (Nat.le_trans g2 (Nat.le_add_right _ _)) hn
    rw [List.map_cons, aUp_map [q] hI.1 hv] at kk
    have e1 : (aNew σ 1 b).1.2.1 - g0.1 = σ.1.2.1 - g0.1 + 1 := by simp [aNew]; omega
    have e2 : (aNew σ 1 b).1.2.2 - g0.2 = σ.1.2.2 - g0.2 + b := by simp [aNew]; omega
    rw [e1, e2, show aUp G (ad ++ [q]) (.ref σ.1.1) = .ref q by
      have h1 := hI.1
      rw [aUp_hi (by omega)]
      unfold aAdr
      rw [if_neg (by omega), show σ.1.1 - 6 = ad.length by omega]
      simp [List.getD_eq_getElem?_getD]] at kk
    exact kk
  · cases h
theorem as_objInit {ix : Nat} (X : aFx p R s m args meth c G d k g0 o) (hK : aKok p l e R s m args below meth c Q G k g0 K o) (hd : decode (aNm k).2.1 pc = .ok (.invokespecial ix, len)) (hl : aIl k pc (.invokespecial ix) len 10 a b z = true) (h : aAct C K d k (.invokespecial ix) len 10 a b z pc L st σ = some o) : aGo p l e R s m args below meth c Q G k g0 pc L st σ := by
  intro ad H locs ls hI hS hL hv g1 g2 hn
  unfold aIl at hl
  dsimp only at hl
  rw [Bool.and_eq_true] at hl
  obtain ⟨hl0, hl⟩ := hl
  obtain rfl : len = 3 := Nat.eq_of_beq_eq_true hl0
  simp only [aAct] at h
  split at h
  · rename_i x r
    split at h
    · rename_i hw9
      obtain ⟨hw8, hkx⟩ := hw9
      obtain ⟨q, hq⟩ := aIn2_get hl
      have hfr := X.2.2.2.2.2.2.2.2.1
      have hlo := X.2.2.2.2.2.2.2.2.2.1
      have kk := (hK _ _ _ _ h).1 ad H locs ls hI hS hL hv.t g1 g2 hn
      obtain ⟨y, hu⟩ : ∃ y, aUp G ad (.ref x) = .ref y := ⟨_, aUp_hi (aKd_lt (by omega)).1⟩
      · rw [List.map_cons, hu]
        exact W.objInit X.1 X.2.1 X.2.2.2.1 (X.2.2.2.2.1 _ (aWd_in (aOI_ok _ hq))) (X.2.2.2.2.1 _ (aWd_in aOI_w.1)) (X.2.2.2.2.1 _ (aWd_in aOI_w.2)) (g := F0 m pc ls (.ref y :: r.map (aUp G ad))) rfl (by show ls.size = _; rw [hL.1, hn]; exact X.2.2.1.symm) rfl hd (by omega) (by show 2 * 0 + _ + 12 ≤ R.locals; rw [aW_map]; omega) kk
    · cases h
  · cases h
theorem as_mmax {ix : Nat} (X : aFx p R s m args meth c G d k g0 o) (hK : aKok p l e R s m args below meth c Q G k g0 K o) (hd : decode (aNm k).2.1 pc = .ok (.invokestatic ix, len)) (hl : aIl k pc (.invokestatic ix) len 17 a b z = true) (h : aAct C K d k (.invokestatic ix) len 17 a b z pc L st σ = some o) : aGo p l e R s m args below meth c Q G k g0 pc L st σ := by
  intro ad H locs ls hI hS hL hv g1 g2 hn
  unfold aIl at hl
  dsimp only at hl
  rw [Bool.and_eq_true] at hl
  obtain ⟨hl0, hl⟩ := hl
  obtain rfl : len = 3 := Nat.eq_of_beq_eq_true hl0
  simp only [aAct] at h
  split at h
  · rename_i y x r
    split at h
    · rename_i hw8
      obtain ⟨q, hq⟩ := aInM_get hl
      have hfr := X.2.2.2.2.2.2.2.2.1
      have hlo := X.2.2.2.2.2.2.2.2.2.1
      have hk1 := (hK _ _ _ _ h).2
      have r1 := X.2.2.2.2.2.2.2.2.2.2.1
      have r2 := X.2.2.2.2.2.2.2.2.2.2.2
      have hw : Cond.methodLink (aOw (aOn k)) ix Lib.Math.max.name ∈ aTb := by
        rcases aMX_ok _ hq with ⟨-, y⟩ | ⟨y, -⟩
        · exact aWd_in y
        · dsimp only at y; omega
      exact va_mmax X.1 X.2.1 (by rw [hL.1, hn]; exact X.2.2.1) X.2.2.2.1 (X.2.2.2.2.1 _ hw) (X.2.2.2.2.1 _ (aWd_in aMX_w.1)) (X.2.2.2.2.1 _ (aWd_in aMX_w.2.2.2.2)) (X.2.2.2.2.1 _ (aWd_in aMX_w.2.1)) (by omega) (by rw [aW_map]; omega) (by omega) (by omega) hd ((hK _ _ _ _ h).1 ad H locs ls hI hS hL (aVs.c trivial hv.t.t) g1 g2 hn)
    · cases h
  · cases h
theorem as_mmin {ix : Nat} (X : aFx p R s m args meth c G d k g0 o) (hK : aKok p l e R s m args below meth c Q G k g0 K o) (hd : decode (aNm k).2.1 pc = .ok (.invokestatic ix, len)) (hl : aIl k pc (.invokestatic ix) len 18 a b z = true) (h : aAct C K d k (.invokestatic ix) len 18 a b z pc L st σ = some o) : aGo p l e R s m args below meth c Q G k g0 pc L st σ := by
  intro ad H locs ls hI hS hL hv g1 g2 hn
  unfold aIl at hl
  dsimp only at hl
  rw [Bool.and_eq_true] at hl
  obtain ⟨hl0, hl⟩ := hl
  obtain rfl : len = 3 := Nat.eq_of_beq_eq_true hl0
  simp only [aAct] at h
  split at h
  · rename_i y x r
    split at h
    · rename_i hw8
      obtain ⟨q, hq⟩ := aInM_get hl
      have hfr := X.2.2.2.2.2.2.2.2.1
      have hlo := X.2.2.2.2.2.2.2.2.2.1
      have hk1 := (hK _ _ _ _ h).2
      have r1 := X.2.2.2.2.2.2.2.2.2.2.1
      have r2 := X.2.2.2.2.2.2.2.2.2.2.2
      have hw : Cond.methodLink (aOw (aOn k)) ix Lib.Math.min.name ∈ aTb := by
        rcases aMX_ok _ hq with ⟨y, -⟩ | ⟨-, y⟩
        · dsimp only at y; omega
        · exact aWd_in y
      exact va_mmin X.1 X.2.1 (by rw [hL.1, hn]; exact X.2.2.1) X.2.2.2.1 (X.2.2.2.2.1 _ hw) (X.2.2.2.2.1 _ (aWd_in aMX_w.2.2.1)) (X.2.2.2.2.1 _ (aWd_in aMX_w.2.2.2.2)) (X.2.2.2.2.1 _ (aWd_in aMX_w.2.2.2.1)) (by omega) (by rw [aW_map]; omega) (by omega) (by omega) hd ((hK _ _ _ _ h).1 ad H locs ls hI hS hL (aVs.c trivial hv.t.t) g1 g2 hn)
    · cases h
  · cases h
theorem as_copy {ix : Nat} (X : aFx p R s m args meth c G d k g0 o) (hK : aKok p l e R s m args below meth c Q G k g0 K o) (hd : decode (aNm k).2.1 pc = .ok (.invokestatic ix, len)) (hl : aIl k pc (.invokestatic ix) len 11 a b z = true) (h : aAct C K d k (.invokestatic ix) len 11 a b z pc L st σ = some o) : aGo p l e R s m args below meth c Q G k g0 pc L st σ := by
  intro ad H locs ls hI hS hL hv g1 g2 hn
  unfold aIl at hl
  dsimp only at hl
  rw [Bool.and_eq_true] at hl
  obtain ⟨hl0, hl⟩ := hl
  obtain rfl : len = 3 := Nat.eq_of_beq_eq_true hl0
  simp only [aAct] at h
  split at h
  · rename_i n dp ob sp o1 r
    split at h
    · rename_i hc
      obtain ⟨k1, k2, c1, c2, c3, c4, c5, c6, c7⟩ := hc
      obtain ⟨q, hq⟩ := aIn2_get hl
      have hfr := X.2.2.2.2.2.2.2.2.1
      have hlo := X.2.2.2.2.2.2.2.2.2.1
      obtain ⟨-, -, hws1, hup1, -⟩ := aArr hI k1 (by decide) (by decide) hv.t.t.t.t.h
      obtain ⟨-, -, hws2, hup2, -⟩ := aArr hI k2 (by decide) (by decide) hv.t.t.h
      rw [if_neg (by decide)] at hws1 hws2
      rw [List.map_cons, List.map_cons, List.map_cons, List.map_cons, List.map_cons, hup1, hup2]
      exact va_copyi X.1 X.2.1 (by rw [hL.1, hn]; exact X.2.2.1) X.2.2.2.1 (X.2.2.2.2.1 _ (aWd_in (aAC_ok _ hq))) (X.2.2.2.2.1 _ (aWd_in aAC_w.1)) (X.2.2.2.2.1 _ (aWd_in aAC_w.2.1)) (X.2.2.2.2.1 _ (aWd_in aAC_w.2.2)) X.2.2.2.2.2.1.1 hI.2.1 hI.2.2.1 hS (o1 - 6) (ob - 6) 2 2 hws1 hws2 rfl rfl rfl c1 c2 c3 c4 c5 (fun _ _ => rfl) (by omega) (by rw [aW_map]; show _ + (7 + 11) ≤ _; omega) hd
        (fun H1 locs1 hP1 hD1 hS1 => (hK _ _ _ _ h).1 ad H1 locs1 ls (aInv_cpy hI k2 c6 hv.t.t.h hP1 hD1) hS1 hL hv.t.t.t.t.t g1 g2 hn)
    · cases h
  · cases h
end Snd1
end
section
/-! calls -/
def aPl (k g : Nat) : Bool := aML.any (fun q => Nat.beq q.1 k && Nat.beq q.2.1 g)
theorem aGd {ws : List Cond} {w : Cond} (h : GoodIn lw_tbl ws) (hw : w ∈ ws) : w ∈ aTb := by
  obtain ⟨h1, h2⟩ := h w hw
  refine List.mem_filter.mpr ⟨h1, ?_⟩
  rcases h2 with h2 | ⟨ty, rfl⟩
  · cases w <;> first | exact h2 | rfl
  · rfl
theorem aGi {ws : List Cond} (h : ∀ w ∈ ws, w ∈ aTb) : GoodIn aTb ws := fun w hw => ⟨h w hw, good_of_word (List.mem_filter.mp (h w hw)).2⟩
theorem aMC_in : ∀ q ∈ aML, aCd q.1 ∈ aTb := by
  intro q h
  unfold aML at h
  simp only [List.mem_append] at h
  rcases h with h | h | h | h | h | h | h | h
  · exact aGd aMC0 (List.mem_map.mpr ⟨q, h, rfl⟩)
  · exact aGd aMC1 (List.mem_map.mpr ⟨q, h, rfl⟩)
  · exact aGd aMC2 (List.mem_map.mpr ⟨q, h, rfl⟩)
  · exact aGd aMC3 (List.mem_map.mpr ⟨q, h, rfl⟩)
  · exact aGd aMC4 (List.mem_map.mpr ⟨q, h, rfl⟩)
  · exact aGd aMC5 (List.mem_map.mpr ⟨q, h, rfl⟩)
  · exact aGd aMC6 (List.mem_map.mpr ⟨q, h, rfl⟩)
  · exact aGd aMC7 (List.mem_map.mpr ⟨q, h, rfl⟩)
/-- what is known of a method that is called: its words, its parameters, its kind of answer -/
def aKn (k : Nat) : Prop := aCd k ∈ aTb ∧ Cond.initialized (aNm k).1.cls ∈ aTb ∧ aRk (aNm k).2.2 = (aMt k).2.2.2.1 ∧ (aMt k).2.2.1 ≤ 11 ∧ (aMt k).2.2.2.2 ≤ 14 ∧ plainName (aNm k).1.cls = true ∧ (aNm k).1.cls ≠ "java/lang/invoke/MethodHandle" ∧ (aNm k).1.cls ≠ "java/lang/invoke/VarHandle"
theorem aPl_get {k g : Nat} (h : aPl k g = true) : ∃ p1 p2 p3 p4, (k, g, p1, p2, p3, p4) ∈ aML := by
  unfold aPl at h
  obtain ⟨⟨k1, g1, p1, p2, p3, p4⟩, h1, h2⟩ := List.any_eq_true.mp h
  rw [Bool.and_eq_true] at h2
  cases Nat.eq_of_beq_eq_true h2.1
  cases Nat.eq_of_beq_eq_true h2.2
  exact ⟨p1, p2, p3, p4, h1⟩
theorem aKn_of {k g : Nat} (h : aPl k g = true) : aKn k := by
  obtain ⟨p1, p2, p3, p4, hq⟩ := aPl_get h
  have hk := aML_ok _ hq
  unfold aMk at hk
  dsimp only at hk
  rw [Bool.and_eq_true, Bool.and_eq_true] at hk
  obtain ⟨⟨h1, h2⟩, -⟩ := hk
  unfold aMs at h1
  simp only [Bool.and_eq_true, decide_eq_true_eq] at h1
  obtain ⟨⟨⟨⟨⟨a1, a2⟩, a3⟩, a4⟩, a5⟩, a6⟩ := h1
  exact ⟨aMC_in _ hq, aWd_in h2, a1, a2, a3, a4, a5, a6⟩
theorem aPl0 {k : Nat} (h : aPl k 0 = true) : Cond.static (aNm k).1 ∈ aTb ∧ (parseMethodDescriptor (aNm k).1.desc).map (fun d => d.parameters.length) = some (aMt k).2.1 := by
  obtain ⟨p1, p2, p3, p4, hq⟩ := aPl_get h
  have hk := aML_ok _ hq
  unfold aMk at hk
  dsimp only at hk
  rw [Bool.and_eq_true] at hk
  obtain ⟨h2, h3⟩ := (Bool.and_eq_true _ _).mp hk.2
  exact ⟨aWd_in h2, of_decide_eq_true h3⟩
theorem aPl1 {k : Nat} (h : aPl k 1 = true) : Cond.instanceMethod (aNm k).1 ∈ aTb ∧ Cond.selects (aNm k).1.cls (aNm k).1 (aNm k).1 ∈ aTb ∧ ∃ n, (aMt k).2.1 = n + 1 ∧ (parseMethodDescriptor (aNm k).1.desc).map (fun d => d.parameters.length) = some n := by
  obtain ⟨p1, p2, p3, p4, hq⟩ := aPl_get h
  have hk := aML_ok _ hq
  unfold aMk at hk
  dsimp only at hk
  rw [Bool.and_eq_true] at hk
  have h2 := hk.2
  simp only [Bool.and_eq_true, decide_eq_true_eq] at h2
  obtain ⟨⟨⟨b1, b2⟩, b3⟩, -⟩ := h2
  refine ⟨aWd_in b1, aWd_in b2, ?_⟩
  cases hp : parseMethodDescriptor (aNm k).1.desc with
  | none => rw [hp] at b3; cases b3
  | some sg =>
    rw [hp] at b3
    exact ⟨sg.parameters.length, (Option.some.inj b3).symm, rfl⟩
theorem aPl2 {k : Nat} (h : aPl k 2 = true) : Cond.instanceMethod (aNm k).1 ∈ aTb ∧ (aNm k).1.name = "<init>" ∧ (aNm k).2.2 = none ∧ ∃ n, (aMt k).2.1 = n + 1 ∧ (parseMethodDescriptor (aNm k).1.desc).map (fun d => d.parameters.length) = some n := by
  obtain ⟨p1, p2, p3, p4, hq⟩ := aPl_get h
  have hk := aML_ok _ hq
  unfold aMk at hk
  dsimp only at hk
  rw [Bool.and_eq_true] at hk
  have h2 := hk.2
  simp only [Bool.and_eq_true, decide_eq_true_eq] at h2
  obtain ⟨⟨⟨b1, b2⟩, b4⟩, b3⟩ := h2
  refine ⟨aWd_in b1, b2, b4, ?_⟩
  cases hp : parseMethodDescriptor (aNm k).1.desc with
  | none => rw [hp] at b3; cases b3
  | some sg =>
    rw [hp] at b3
    exact ⟨sg.parameters.length, (Option.some.inj b3).symm, rfl⟩
theorem aDp_room {d k k' e : Nat} (h : aDp d k k' = some e) (hr : (aMt k').2.2.2.2 ≤ 14) : (aMt k').2.2.2.2 + 16 * e + 8 + 1 ≤ (aMt k).2.2.2.2 + 16 * d + 8 := by
  unfold aDp at h
  split at h
  · cases h; omega
  · split at h
    · cases h
    · cases h; omega
theorem aW_rev {st : List Value} {n : Nat} (h : aW st ≤ n) : aW st.reverse ≤ n := by
  unfold aW at h ⊢
  rw [List.map_reverse, List.sum_reverse]
  exact h
theorem aLrm {f f' r n : Nat} (h1 : f + 1 ≤ f') (h2 : 41 * f' ≤ r) (h3 : n ≤ 11) : 8 + (n + 11) + 41 * f ≤ r := by omega
theorem aStk {G : aEnv} {ad : List Nat} (st : List Value) (n : Nat) : st.map (aUp G ad) = (((st.take n).reverse).map (aUp G ad)).reverse ++ (st.drop n).map (aUp G ad) := by
  rw [List.map_reverse, List.reverse_reverse, ← List.map_append, List.take_append_drop]
theorem aTake {st : List Value} {n : Nat} {w : Value} (h : st[n]? = some w) : (st.take (n + 1)).reverse = w :: (st.take n).reverse := by
  rw [List.take_add_one, h]
  simp
theorem aRc_get {st : List Value} {n kd : Nat} (h : aRc st (n + 1) kd = true) : ∃ ob : Nat, st[n]? = some (.ref ob) ∧ aKd ob = kd := by
  unfold aRc at h
  rw [Nat.add_sub_cancel] at h
  split at h
  · rename_i ob ho
    exact ⟨ob, ho, Nat.eq_of_beq_eq_true h⟩
  · cases h
theorem aBlind {G : aEnv} {ad : List Nat} {σ : aS} (av : List Value) : FrameBlind (va_Pc av (aPre G ad σ)) := by
  rintro a U g mk ⟨h1, h2, h3, h4⟩
  exact ⟨h1, h2, h3.go (State.WarmedH.refl U) (fun _ _ _ => rfl), h4⟩
section Snd2
variable {p : Program} {l : Launch} {e : Env} {R : Room} {s : State} {m : MethodId} {args : Array Value} {below : List Frame} {meth : Method} {c : Code} {Q : State → Prop} {G : aEnv} {d k : Nat} {g0 : Nat × Nat} {C : Nat → Nat → List Value → aS → Option aO} {K : Nat → List Value → List Value → aS → Option aO} {o : aO} {len t a b : Nat} {z : Int} {pc : Nat} {L st : List Value} {σ : aS}
/-- behind a call that returned -/
theorem aCall_go (hK : aKok p l e R s m args below meth c Q G k g0 K o) {ad : List Nat} {H : Heap} {locs : List Loc} {ls : Array Slot} {st0 rest st' : List Value} {v : Option Value} {τ : aS} {a0 : Array Value} {r mc ms : Nat} (hI : aInv G ad σ H) (hS : va_S (aA G) s.heap H locs) (hL : aLr G ad σ.1.1 ls L) (hvr : aVs σ.1.1 rest) (g1 : g0.1 ≤ σ.1.2.1) (g2 : g0.2 ≤ σ.1.2.2) (hn : L.length = (aMt k).2.2.1)
    (le1 : σ.1.2.1 ≤ τ.1.2.1) (le2 : σ.1.2.2 ≤ τ.1.2.2) (hvv : ∀ w, v = some w → aVk τ.1.1 w) (emc : mc = τ.1.2.1 - σ.1.2.1) (ems : ms = τ.1.2.2 - σ.1.2.2)
    (hr : va_Run p l e R s m args below meth c H locs (σ.1.2.1 - g0.1) (σ.1.2.2 - g0.2) mc ms (F0 m pc ls st0) (rest.map (aUp G ad)) (aPost G ad v τ a0) (aA G)) (hans : aAns r v rest st') (h : K (pc + 3) L st' τ = some o) : W p l e R s m args below meth c H locs (σ.1.2.1 - g0.1) (σ.1.2.2 - g0.2) Q (F0 m pc ls st0) := by
  intro T hT X
  obtain ⟨v9, st₀, t, T', L9, h0, X', hL9, e1, e2, ⟨x, hv9, hI9, hz, hk⟩, hst⟩ := hr T hT X
  cases hv9
  rw [h0] at hz hk
  have hcnt : σ.1.1 ≤ τ.1.1 := by
    have q1 := hI.1
    have q2 := hI9.1
    rw [List.length_append] at q2
    omega
  have hS9 : va_S (aA G) s.heap t.heap (locs ++ L9) := by
    refine ⟨Nat.le_trans hS.1 hz, fun q q1 q2 => ?_, fun q hq => ?_⟩
    · rw [hk q (Nat.lt_of_lt_of_le q1 hS.1) q2]
      exact hS.2.1 q q1 q2
    · rcases List.mem_append.mp hq with q1 | q1
      · exact hS.2.2 q q1
      · exact hL9 q q1
  have hvr9 : aVs τ.1.1 rest := fun w hw => aVk_le hcnt (hvr w hw)
  have hvs : aVs τ.1.1 st' := by
    rcases hans with ⟨-, -, rfl⟩ | ⟨-, y, -, rfl⟩ | ⟨-, -, y, -, rfl⟩
    · exact hvr9
    · exact aVs.c trivial hvr9
    · exact aVs.c trivial hvr9
  have hst9 : st'.map (aUp G (ad ++ x)) = (v.map (aUp G (ad ++ x))).toList ++ rest.map (aUp G ad) := by
    rw [← aUp_map x hI.1 hvr]
    rcases hans with ⟨-, rfl, rfl⟩ | ⟨-, y, rfl, rfl⟩ | ⟨-, -, y, rfl, rfl⟩ <;> rfl
  have kk := (hK _ _ _ _ h).1 (ad ++ x) t.heap (locs ++ L9) ls hI9 hS9 (aLr_app x hI.1 hcnt hL) hvs (Nat.le_trans g1 le1) (Nat.le_trans g2 le2) hn
  rw [hst9] at kk
  obtain ⟨t2, a1, b1⟩ := kk T' e1 (by
    have q1 : τ.1.2.1 - g0.1 = σ.1.2.1 - g0.1 + mc := by omega
    have q2 : τ.1.2.2 - g0.2 = σ.1.2.2 - g0.2 + ms := by omega
    rw [q1, q2]
    exact X')
  exact ⟨t2, hst t2 a1, b1⟩
theorem aPreU (X : aFx p R s m args meth c G d k g0 o) {ad : List Nat} {H : Heap} {locs : List Loc} (hI : aInv G ad σ H) (hS : va_S (aA G) s.heap H locs) (av : List Value) : ∀ U : State, U.heap = H → s.WarmedH U.vm → va_Pc av (aPre G ad σ) av.toArray U := by
  intro U hU hW
  refine ⟨rfl, by rw [hU]; exact hI, ?_, ?_⟩
  · refine X.2.2.2.2.2.1.go hW (fun q q1 q2 => ?_)
    rw [hU]
    exact hS.2.1 q q1 q2
  · rw [hU]
    exact Nat.le_trans X.2.2.2.2.2.2.1 hS.1
/-- calls that AM says return, do so at the machine -/
def aCok (l : Launch) (G : aEnv) (C : Nat → Nat → List Value → aS → Option aO) : Prop := ∀ e k' as τ0 v τ g, C e k' as τ0 = some (some v, τ) → aPl k' g = true → as.length = (aMt k').2.1 → aW as ≤ (aMt k').2.2.1 → aMet l G e k' as τ0 v τ
theorem aVs_take {n : Nat} {st : List Value} (j : Nat) (h : aVs n st) : aVs n ((st.take j).reverse) := fun v hv => h v (List.mem_of_mem_take (List.mem_reverse.mp hv))
theorem aVs_drop {n : Nat} {st : List Value} (j : Nat) (h : aVs n st) : aVs n (st.drop j) := fun v hv => h v (List.mem_of_mem_drop hv)

theorem as_static {ix : Nat} (X : aFx p R s m args meth c G d k g0 o) (hK : aKok p l e R s m args below meth c Q G k g0 K o) (hC : aCok l G C) (hp : aPl a 0 = true) (hd : decode (aNm k).2.1 pc = .ok (.invokestatic ix, 3)) (hlk : aInM aMLk (aOn k) ix a = true) (h : aCall C d k a st σ (fun r τ => K (pc + 3) L r τ) = some o) : aGo p l e R s m args below meth c Q G k g0 pc L st σ := by
  intro ad H locs ls hI hS hL hv g1 g2 hn
  obtain ⟨e', v, st', τ, h1, ⟨h2, h3⟩, hdp, hC0, hans, hKK, -⟩ := aCall_use h
  obtain ⟨w1, w2, -, wl, wr, -, wm, wv⟩ := aKn_of hp
  obtain ⟨ws, wp⟩ := aPl0 hp
  obtain ⟨⟨le1, le2⟩, hvv, hM⟩ := hC e' a _ σ v τ 0 hC0 hp (by simp [h1]) (aW_rev h3)
  have hM := hM ad hI.1 (aVs_take _ hv)
  have hk1 := (hK _ _ _ _ hKK).2
  have r1 := X.2.2.2.2.2.2.2.2.2.2.1
  have r2 := X.2.2.2.2.2.2.2.2.2.2.2
  have hfr := X.2.2.2.2.2.2.2.2.1
  have hlo := X.2.2.2.2.2.2.2.2.2.1
  have hrm := aDp_room hdp wr
  refine aCall_go hK hI hS hL (aVs_drop _ hv) g1 g2 hn le1 le2 hvv rfl rfl (va_runS (Ts := aTb) ⟨X.1, X.2.1, X.2.2.1, X.2.2.2.1, X.2.2.2.2.1⟩ hM (va_cwS (aMt a).2.1 X.2.2.2.2.1 (aGi ?_) rfl rfl rfl ⟨wm, wv, wp⟩ ⟨?_, ?_⟩) ⟨aBlind _, aPreU X hI hS _⟩ rfl (by simp [h1]) (by show ls.size = _; rw [hL.1, hn]) (aStk st _) (lv_room (by rw [aW_map]; exact h2)) hd ⟨by omega, by omega⟩) hans hKK
  · intro w hw
    unfold va_wsS at hw
    simp only [List.cons_append, List.nil_append, List.mem_cons] at hw
    rcases hw with rfl | rfl | rfl | rfl | hw
    · exact aInM_w hlk
    · exact ws
    · exact w2
    · exact w1
    · exact hw
  · exact Nat.le_trans hrm hfr
  · exact aLrm hrm hlo wl
theorem as_virtual {ix : Nat} (X : aFx p R s m args meth c G d k g0 o) (hK : aKok p l e R s m args below meth c Q G k g0 K o) (hC : aCok l G C) (hp : aPl a 1 = true) (hd : decode (aNm k).2.1 pc = .ok (.invokevirtual ix, 3)) (hlk : aInM aMLk (aOn k) ix a = true) (hkc : aKc b (aNm a).1.cls = true) (hrc : aRc st (aMt a).2.1 b = true) (h : aCall C d k a st σ (fun r τ => K (pc + 3) L r τ) = some o) : aGo p l e R s m args below meth c Q G k g0 pc L st σ := by
  intro ad H locs ls hI hS hL hv g1 g2 hn
  obtain ⟨e', v, st', τ, h1, ⟨h2, h3⟩, hdp, hC0, hans, hKK, -⟩ := aCall_use h
  obtain ⟨w1, w2, -, wl, wr, -, wm, wv⟩ := aKn_of hp
  obtain ⟨ws, wsel, n, en, wp⟩ := aPl1 hp
  obtain ⟨⟨le1, le2⟩, hvv, hM⟩ := hC e' a _ σ v τ 1 hC0 hp (by simp [h1]) (aW_rev h3)
  have hM := hM ad hI.1 (aVs_take _ hv)
  rw [en] at hrc h1 h2 hans hM
  obtain ⟨ob, hob, hkd⟩ := aRc_get hrc
  rw [aTake hob] at hM
  have hvo : ob < σ.1.1 := hv _ (List.mem_of_getElem? hob)
  have hk1 := (hK _ _ _ _ hKK).2
  have r1 := X.2.2.2.2.2.2.2.2.2.2.1
  have r2 := X.2.2.2.2.2.2.2.2.2.2.2
  have hfr := X.2.2.2.2.2.2.2.2.1
  have hlo := X.2.2.2.2.2.2.2.2.2.1
  have hrm := aDp_room hdp wr
  obtain ⟨q, hup, hcell⟩ : ∃ q, aUp G ad (.ref ob) = .ref q ∧ ∃ cell : Cell, H[q]? = some cell ∧ cell.vm.isStatics = false ∧ s.vm.findClass (aNm a).1.cls = some cell.cls := by
    unfold aKc at hkc
    split at hkc
    · rename_i h21
      have hcl : (aNm a).1.cls = "java/lang/String" := of_decide_eq_true hkc
      have hst : ∃ n bs, aStrings G ob n bs s s.heap := by
        rcases aKd_21 (hkd.trans h21) with rfl | rfl
        · exact ⟨_, _, X.2.2.2.2.2.1.2.2.1⟩
        · exact ⟨_, _, X.2.2.2.2.2.1.2.2.2.1⟩
      obtain ⟨n, bs, s1, -⟩ := hst
      refine ⟨_, aUp_lo (by rcases aKd_21 (hkd.trans h21) with rfl | rfl <;> decide), ?_⟩
      obtain ⟨cell, z1, z2, z3, -⟩ := s1.kept hS.2.1
      exact ⟨cell, z1, z2, by rw [hcl]; exact z3⟩
    · split at hkc
      · rename_i q hq
        obtain ⟨Cn, T, N⟩ := q
        have hcl : Cn = (aNm a).1.cls := of_decide_eq_true hkc
        obtain ⟨-, -, -, -, hws, hup⟩ := aObj hI hq hkd hvo
        obtain ⟨cell, z1, z2, z3⟩ := va_recv X.2.2.2.2.2.1.1 hI.2.1 hq hws
        exact ⟨_, hup, cell, z1, z2, by rw [← hcl]; exact z3⟩
      · cases hkc
  rw [List.map_cons, hup] at hM
  refine aCall_go hK hI hS hL (aVs_drop _ hv) g1 g2 hn le1 le2 hvv rfl rfl (va_runV (Ts := aTb) (C := (aNm a).1.cls) (b := q) (As := ((st.take n).reverse).map (aUp G ad)) ⟨X.1, X.2.1, X.2.2.1, X.2.2.2.1, X.2.2.2.2.1⟩ hM (cwV n X.2.2.2.2.1 (aGi ?_) rfl rfl rfl ⟨rfl, wm, wv, wp⟩ ⟨?_, ?_⟩) ⟨aBlind _, hcell, aPreU X hI hS _⟩ rfl (by simp; omega) (by show ls.size = _; rw [hL.1, hn]) ?_ (lv_room (by rw [aW_map]; exact h2)) hd ⟨by omega, by omega⟩) hans hKK
  · intro w hw
    unfold wsV at hw
    simp only [List.cons_append, List.nil_append, List.mem_cons] at hw
    rcases hw with rfl | rfl | rfl | rfl | rfl | hw
    · exact aInM_w hlk
    · exact ws
    · exact wsel
    · exact w2
    · exact w1
    · exact hw
  · exact Nat.le_trans hrm hfr
  · exact aLrm hrm hlo wl
  · show st.map (aUp G ad) = _
    rw [aStk st (n + 1), aTake hob, List.map_cons, hup, List.reverse_cons, List.append_assoc]
    rfl
end Snd2
end
section
/-! special calls, nest mates; THE FRAME: every run of AM's is the machine's -/
section Snd3
variable {p : Program} {l : Launch} {e : Env} {R : Room} {s : State} {m : MethodId} {args : Array Value} {below : List Frame} {meth : Method} {c : Code} {Q : State → Prop} {G : aEnv} {d k : Nat} {g0 : Nat × Nat} {C : Nat → Nat → List Value → aS → Option aO} {K : Nat → List Value → List Value → aS → Option aO} {o : aO} {len t a b : Nat} {z : Int} {pc : Nat} {L st : List Value} {σ : aS}
theorem aKc_ne5 {b ob : Nat} {cls : String} (hkd : aKd ob = b) (hkc : aKc b cls = true) : ob ≠ 5 := by
  rintro rfl
  have h5 : aKd 5 = 23 := by decide +kernel
  rw [h5] at hkd
  subst hkd
  unfold aKc at hkc
  rw [if_neg (by decide)] at hkc
  cases hkc
theorem as_special {ix : Nat} (X : aFx p R s m args meth c G d k g0 o) (hK : aKok p l e R s m args below meth c Q G k g0 K o) (hC : aCok l G C) (hp : aPl a 2 = true) (hd : decode (aNm k).2.1 pc = .ok (.invokespecial ix, 3)) (hlk : aInM aMLk (aOn k) ix a = true ∨ aInM aNLk (aOn k) ix a = true) (hkc : aKc b (aNm a).1.cls = true) (hrc : aRc st (aMt a).2.1 b = true) (h : aCall C d k a st σ (fun r τ => K (pc + 3) L r τ) = some o) : aGo p l e R s m args below meth c Q G k g0 pc L st σ := by
  intro ad H locs ls hI hS hL hv g1 g2 hn
  obtain ⟨e', v, st', τ, h1, ⟨h2, h3⟩, hdp, hC0, hans, hKK, -⟩ := aCall_use h
  obtain ⟨w1, w2, -, wl, wr, -, wm, wv⟩ := aKn_of hp
  obtain ⟨ws, wnm, wno, n, en, wp⟩ := aPl2 hp
  obtain ⟨⟨le1, le2⟩, hvv, hM⟩ := hC e' a _ σ v τ 2 hC0 hp (by simp [h1]) (aW_rev h3)
  have hM := hM ad hI.1 (aVs_take _ hv)
  rw [en] at hrc h1 h2 hans hM
  obtain ⟨ob, hob, hkd⟩ := aRc_get hrc
  rw [aTake hob] at hM
  have hk1 := (hK _ _ _ _ hKK).2
  have r1 := X.2.2.2.2.2.2.2.2.2.2.1
  have r2 := X.2.2.2.2.2.2.2.2.2.2.2
  have hfr := X.2.2.2.2.2.2.2.2.1
  have hlo := X.2.2.2.2.2.2.2.2.2.1
  have hrm := aDp_room hdp wr
  obtain ⟨q, hup⟩ : ∃ q, aUp G ad (.ref ob) = .ref q := ⟨_, by rw [aUp_at, if_neg (aKc_ne5 hkd hkc)]⟩
  rw [List.map_cons, hup] at hM
  have ecd : aCd a :: aTb = Cond.code (aNm a).1 (aNm a).2.1 (aMt a).2.2.1 none :: aTb := by unfold aCd; rw [wno]
  have hR1 : (aRm e' a (τ.1.2.1 - σ.1.2.1) (τ.1.2.2 - σ.1.2.2)).frames + 1 ≤ R.frames := Nat.le_trans hrm hfr
  have hR2 : 8 + ((aMt a).2.2.1 + 11) + (aRm e' a (τ.1.2.1 - σ.1.2.1) (τ.1.2.2 - σ.1.2.2)).locals ≤ R.locals := aLrm hrm hlo wl
  have hG : GoodIn aTb (aCd a :: aTb) := aGi (fun w hw => (List.mem_cons.mp hw).elim (fun q => q ▸ w1) (fun q => q))
  have hstk : st.map (aUp G ad) = (((st.take n).reverse).map (aUp G ad)).reverse ++ .ref q :: (st.drop (n + 1)).map (aUp G ad) := by
    rw [aStk st (n + 1), aTake hob, List.map_cons, hup, List.reverse_cons, List.append_assoc]
    rfl
  rcases hlk with hlk | hlk
  · exact aCall_go hK hI hS hL (aVs_drop _ hv) g1 g2 hn le1 le2 hvv rfl rfl (va_runI (Ts := aTb) (b := q) (As := ((st.take n).reverse).map (aUp G ad)) ⟨X.1, X.2.1, X.2.2.1, X.2.2.2.1, X.2.2.2.2.1⟩ hM (cwI n X.2.2.2.2.1 hG ecd rfl rfl (X.2.2.2.2.1 _ w2) (X.2.2.2.2.1 _ (aInM_w hlk)) (X.2.2.2.2.1 _ ws) wnm ⟨wm, wv, wp⟩ ⟨hR1, hR2⟩) ⟨aBlind _, aPreU X hI hS _⟩ rfl (by simp; omega) (by show ls.size = _; rw [hL.1, hn]) hstk (lv_room (by rw [aW_map]; exact h2)) hd ⟨by omega, by omega⟩) hans hKK
  · obtain ⟨pl, hq⟩ := aInM_get hlk
    have hnw : va_Nw (.methodLinkNest (aOw (aOn k)) ix (aNm a).1 "BluesAndGreens") s := by
      have q1 := X.2.2.2.2.2.1.2.2.2.2.2.2.2.1 _ hq
      dsimp only at q1
      exact q1
    have cw : va_CN R s args (aOw (aOn k)) ix (aNm a).1 "BluesAndGreens" (aNm a).2.1 (aMt a).2.2.1 none (aCd a :: aTb) (aRm e' a (τ.1.2.1 - σ.1.2.1) (τ.1.2.2 - σ.1.2.2)) (τ.1.2.1 - σ.1.2.1) (τ.1.2.2 - σ.1.2.2) n := va_cnB (Ts := aTb) (ws' := aTb) n X.2.2.2.2.1 hG ecd rfl rfl hnw (X.2.2.2.2.1 _ w2) ⟨wm, wv, wp⟩ ⟨hR1, hR2⟩
    have hrun := va_runIN (locs := locs) (cells := σ.1.2.1 - g0.1) (slots := σ.1.2.2 - g0.2) (below := below) (meth := meth) (e := e) (g := F0 m pc ls (st.map (aUp G ad))) (rest := (st.drop (n + 1)).map (aUp G ad)) (Ts := aTb) (b := q) (As := ((st.take n).reverse).map (aUp G ad)) ⟨X.1, X.2.1, X.2.2.1, X.2.2.2.1, X.2.2.2.2.1⟩ hM ⟨cw, wnm, X.2.2.2.2.1 _ ws⟩ ⟨aBlind _, aPreU X hI hS _⟩ rfl (by simp; omega) (by show ls.size = _; rw [hL.1, hn]) hstk (lv_room (by rw [aW_map]; exact h2)) hd ⟨by omega, by omega⟩
    exact aCall_go hK hI hS hL (aVs_drop _ hv) g1 g2 hn le1 le2 hvv rfl rfl hrun hans hKK
theorem as_staticN {ix : Nat} (X : aFx p R s m args meth c G d k g0 o) (hK : aKok p l e R s m args below meth c Q G k g0 K o) (hC : aCok l G C) (hp : aPl a 0 = true) (hd : decode (aNm k).2.1 pc = .ok (.invokestatic ix, 3)) (hlk : aInM aNLk (aOn k) ix a = true) (h : aCall C d k a st σ (fun r τ => K (pc + 3) L r τ) = some o) : aGo p l e R s m args below meth c Q G k g0 pc L st σ := by
  intro ad H locs ls hI hS hL hv g1 g2 hn
  obtain ⟨e', v, st', τ, h1, ⟨h2, h3⟩, hdp, hC0, hans, hKK, -⟩ := aCall_use h
  obtain ⟨w1, w2, -, wl, wr, -, wm, wv⟩ := aKn_of hp
  obtain ⟨ws, wp⟩ := aPl0 hp
  obtain ⟨⟨le1, le2⟩, hvv, hM⟩ := hC e' a _ σ v τ 0 hC0 hp (by simp [h1]) (aW_rev h3)
  have hM := hM ad hI.1 (aVs_take _ hv)
  have hk1 := (hK _ _ _ _ hKK).2
  have r1 := X.2.2.2.2.2.2.2.2.2.2.1
  have r2 := X.2.2.2.2.2.2.2.2.2.2.2
  have hfr := X.2.2.2.2.2.2.2.2.1
  have hlo := X.2.2.2.2.2.2.2.2.2.1
  have hrm := aDp_room hdp wr
  obtain ⟨pl, hq⟩ := aInM_get hlk
  have hG : GoodIn aTb (aCd a :: aTb) := aGi (fun w hw => (List.mem_cons.mp hw).elim (fun q => q ▸ w1) (fun q => q))
  have hnw : va_Nw (.methodLinkNest (aOw (aOn k)) ix (aNm a).1 "BluesAndGreens") s := by
    have q1 := X.2.2.2.2.2.1.2.2.2.2.2.2.2.1 _ hq
    dsimp only at q1
    exact q1
  have hR1 : (aRm e' a (τ.1.2.1 - σ.1.2.1) (τ.1.2.2 - σ.1.2.2)).frames + 1 ≤ R.frames := Nat.le_trans hrm hfr
  have hR2 : 8 + ((aMt a).2.2.1 + 11) + (aRm e' a (τ.1.2.1 - σ.1.2.1) (τ.1.2.2 - σ.1.2.2)).locals ≤ R.locals := aLrm hrm hlo wl
  have cw : va_CN R s args (aOw (aOn k)) ix (aNm a).1 "BluesAndGreens" (aNm a).2.1 (aMt a).2.2.1 (aNm a).2.2 (aCd a :: aTb) (aRm e' a (τ.1.2.1 - σ.1.2.1) (τ.1.2.2 - σ.1.2.2)) (τ.1.2.1 - σ.1.2.1) (τ.1.2.2 - σ.1.2.2) (aMt a).2.1 := va_cnB (Ts := aTb) (ws' := aTb) (aMt a).2.1 X.2.2.2.2.1 hG rfl rfl rfl hnw (X.2.2.2.2.1 _ w2) ⟨wm, wv, wp⟩ ⟨hR1, hR2⟩
  have hrun := va_runSN (locs := locs) (cells := σ.1.2.1 - g0.1) (slots := σ.1.2.2 - g0.2) (below := below) (meth := meth) (e := e) (g := F0 m pc ls (st.map (aUp G ad))) (rest := (st.drop (aMt a).2.1).map (aUp G ad)) (Ts := aTb) (As := ((st.take (aMt a).2.1).reverse).map (aUp G ad)) ⟨X.1, X.2.1, X.2.2.1, X.2.2.2.1, X.2.2.2.2.1⟩ hM ⟨cw, X.2.2.2.2.1 _ ws, trivial⟩ ⟨aBlind _, aPreU X hI hS _⟩ rfl (by simp [h1]) (by show ls.size = _; rw [hL.1, hn]) (aStk st _) (lv_room (by rw [aW_map]; exact h2)) hd ⟨by omega, by omega⟩
  exact aCall_go hK hI hS hL (aVs_drop _ hv) g1 g2 hn le1 le2 hvv rfl rfl hrun hans hKK
/-- a method's last instruction, with its answer -/
def aLast (r : Nat) (i : Instr) (v : Option Value) : Prop := (i = .return_ ∧ r = 0 ∧ v = none) ∨ (i = .lreturn ∧ r = 2 ∧ ∃ x, v = some (.long x)) ∨ (i = .ireturn ∧ ∃ x, v = some (.int x) ∧ (r = 1 ∨ (r = 3 ∧ narrow .boolean (.int x) = .int x) ∨ (r = 4 ∧ narrow .char (.int x) = .int x) ∨ (r = 5 ∧ narrow .byte (.int x) = .int x)))
def aEnd (p : Program) (l : Launch) (e : Env) (R : Room) (s : State) (m : MethodId) (args : Array Value) (below : List Frame) (meth : Method) (c : Code) (Q : State → Prop) (G : aEnv) (k : Nat) (g0 : Nat × Nat) (o : aO) : Prop :=
  ∀ (pc : Nat) (i : Instr) (v : Option Value) (ad : List Nat) (H : Heap) (locs : List Loc) (ls : Array Slot), decode (aNm k).2.1 pc = .ok (i, 1) → aLast (aMt k).2.2.2.1 i v → o.1 = some v → aInv G ad o.2 H → va_S (aA G) s.heap H locs →
    W p l e R s m args below meth c H locs (o.2.1.2.1 - g0.1) (o.2.1.2.2 - g0.2) Q (F0 m pc ls (v.map (aUp G ad)).toList)
end Snd3
end
section
/-! what else is checked of each instruction: which methods are called, which rows are made -/
def aIm (e : aN) : Bool := match e.2.1 with
  | .newarray ty => decide (aKind ty < 99)
  | .invokestatic _ => (match e.2.2.2.1 with
    | 1 => aPl e.2.2.2.2.1 0
    | 4 => aPl e.2.2.2.2.1 0
    | _ => true)
  | .invokevirtual _ => (match e.2.2.2.1 with
    | 2 => aPl e.2.2.2.2.1 1
    | 6 => false
    | _ => true)
  | .invokespecial _ => (match e.2.2.2.1 with
    | 3 => aPl e.2.2.2.2.1 2
    | 5 => aPl e.2.2.2.2.1 2
    | _ => true)
  | _ => true
set_option maxRecDepth 100000 in
theorem aMm0 : aML0.all (fun q => (aMt q.1).1.all aIm) = true := by decide +kernel
set_option maxRecDepth 100000 in
theorem aMi0 : ∀ q ∈ aML0, (aMt q.1).1.all (aIc q.1) = true := List.forall_mem_cons.mpr ⟨aI0, List.forall_mem_cons.mpr ⟨aI1, List.forall_mem_cons.mpr ⟨aI2, List.forall_mem_cons.mpr ⟨aI3, List.forall_mem_cons.mpr ⟨aI4, List.forall_mem_cons.mpr ⟨aI5, List.forall_mem_cons.mpr ⟨aI6, List.forall_mem_cons.mpr ⟨aI7, List.forall_mem_cons.mpr ⟨aI8, List.forall_mem_cons.mpr ⟨aI9, List.forall_mem_cons.mpr ⟨aI10, List.forall_mem_cons.mpr ⟨aI11, List.forall_mem_cons.mpr ⟨aI12, List.forall_mem_cons.mpr ⟨aI13, List.forall_mem_cons.mpr ⟨aI14, List.forall_mem_cons.mpr ⟨aI15, List.forall_mem_cons.mpr ⟨aI16, List.forall_mem_cons.mpr ⟨aI17, List.forall_mem_cons.mpr ⟨aI18, List.forall_mem_cons.mpr ⟨aI19, List.forall_mem_cons.mpr ⟨aI20, List.forall_mem_cons.mpr ⟨aI21, List.forall_mem_cons.mpr ⟨aI22, List.forall_mem_cons.mpr ⟨aI23, List.forall_mem_cons.mpr ⟨aI24, List.forall_mem_cons.mpr ⟨aI25, List.forall_mem_cons.mpr ⟨aI26, List.forall_mem_cons.mpr ⟨aI27, List.forall_mem_cons.mpr ⟨aI28, List.forall_mem_cons.mpr ⟨aI29, List.forall_mem_cons.mpr ⟨aI30, List.forall_mem_cons.mpr ⟨aI31, List.forall_mem_cons.mpr ⟨aI32, List.forall_mem_cons.mpr ⟨aI33, List.forall_mem_cons.mpr ⟨aI34, List.forall_mem_cons.mpr ⟨aI35, List.forall_mem_cons.mpr ⟨aI36, List.forall_mem_cons.mpr ⟨aI37, List.forall_mem_cons.mpr ⟨aI38, List.forall_mem_cons.mpr ⟨aI39, fun _ h => absurd h List.not_mem_nil⟩⟩⟩⟩⟩⟩⟩⟩⟩⟩⟩⟩⟩⟩⟩⟩⟩⟩⟩⟩⟩⟩⟩⟩⟩⟩⟩⟩⟩⟩⟩⟩⟩⟩⟩⟩⟩⟩⟩⟩
set_option maxRecDepth 100000 in
theorem aMm1 : aML1.all (fun q => (aMt q.1).1.all aIm) = true := by decide +kernel
set_option maxRecDepth 100000 in
theorem aMi1 : ∀ q ∈ aML1, (aMt q.1).1.all (aIc q.1) = true := List.forall_mem_cons.mpr ⟨aI40, List.forall_mem_cons.mpr ⟨aI41, List.forall_mem_cons.mpr ⟨aI42, List.forall_mem_cons.mpr ⟨aI43, List.forall_mem_cons.mpr ⟨aI44, List.forall_mem_cons.mpr ⟨aI45, List.forall_mem_cons.mpr ⟨aI46, List.forall_mem_cons.mpr ⟨aI47, List.forall_mem_cons.mpr ⟨aI48, List.forall_mem_cons.mpr ⟨aI49, List.forall_mem_cons.mpr ⟨aI50, List.forall_mem_cons.mpr ⟨aI51, List.forall_mem_cons.mpr ⟨aI52, List.forall_mem_cons.mpr ⟨aI53, List.forall_mem_cons.mpr ⟨aI54, List.forall_mem_cons.mpr ⟨aI55, List.forall_mem_cons.mpr ⟨aI56, List.forall_mem_cons.mpr ⟨aI57, List.forall_mem_cons.mpr ⟨aI58, List.forall_mem_cons.mpr ⟨aI59, List.forall_mem_cons.mpr ⟨aI60, List.forall_mem_cons.mpr ⟨aI61, List.forall_mem_cons.mpr ⟨aI62, List.forall_mem_cons.mpr ⟨aI63, List.forall_mem_cons.mpr ⟨aI64, List.forall_mem_cons.mpr ⟨aI65, List.forall_mem_cons.mpr ⟨aI66, List.forall_mem_cons.mpr ⟨aI67, List.forall_mem_cons.mpr ⟨aI68, List.forall_mem_cons.mpr ⟨aI69, List.forall_mem_cons.mpr ⟨aI70, List.forall_mem_cons.mpr ⟨aI71, List.forall_mem_cons.mpr ⟨aI72, List.forall_mem_cons.mpr ⟨aI73, List.forall_mem_cons.mpr ⟨aI74, List.forall_mem_cons.mpr ⟨aI75, List.forall_mem_cons.mpr ⟨aI76, List.forall_mem_cons.mpr ⟨aI77, List.forall_mem_cons.mpr ⟨aI78, List.forall_mem_cons.mpr ⟨aI79, fun _ h => absurd h List.not_mem_nil⟩⟩⟩⟩⟩⟩⟩⟩⟩⟩⟩⟩⟩⟩⟩⟩⟩⟩⟩⟩⟩⟩⟩⟩⟩⟩⟩⟩⟩⟩⟩⟩⟩⟩⟩⟩⟩⟩⟩⟩
set_option maxRecDepth 100000 in
theorem aMm2 : aML2.all (fun q => (aMt q.1).1.all aIm) = true := by decide +kernel
set_option maxRecDepth 100000 in
theorem aMi2 : ∀ q ∈ aML2, (aMt q.1).1.all (aIc q.1) = true := List.forall_mem_cons.mpr ⟨aI80, List.forall_mem_cons.mpr ⟨aI81, List.forall_mem_cons.mpr ⟨aI82, List.forall_mem_cons.mpr ⟨aI83, List.forall_mem_cons.mpr ⟨aI84, List.forall_mem_cons.mpr ⟨aI85, List.forall_mem_cons.mpr ⟨aI86, List.forall_mem_cons.mpr ⟨aI87, List.forall_mem_cons.mpr ⟨aI88, List.forall_mem_cons.mpr ⟨aI89, List.forall_mem_cons.mpr ⟨aI90, List.forall_mem_cons.mpr ⟨aI91, List.forall_mem_cons.mpr ⟨aI92, List.forall_mem_cons.mpr ⟨aI93, List.forall_mem_cons.mpr ⟨aI94, List.forall_mem_cons.mpr ⟨aI95, List.forall_mem_cons.mpr ⟨aI96, List.forall_mem_cons.mpr ⟨aI97, List.forall_mem_cons.mpr ⟨aI98, List.forall_mem_cons.mpr ⟨aI99, List.forall_mem_cons.mpr ⟨aI100, List.forall_mem_cons.mpr ⟨aI101, List.forall_mem_cons.mpr ⟨aI102, List.forall_mem_cons.mpr ⟨aI103, List.forall_mem_cons.mpr ⟨aI104, List.forall_mem_cons.mpr ⟨aI105, List.forall_mem_cons.mpr ⟨aI106, List.forall_mem_cons.mpr ⟨aI107, List.forall_mem_cons.mpr ⟨aI108, List.forall_mem_cons.mpr ⟨aI109, List.forall_mem_cons.mpr ⟨aI110, List.forall_mem_cons.mpr ⟨aI111, List.forall_mem_cons.mpr ⟨aI112, List.forall_mem_cons.mpr ⟨aI113, List.forall_mem_cons.mpr ⟨aI114, List.forall_mem_cons.mpr ⟨aI115, List.forall_mem_cons.mpr ⟨aI116, List.forall_mem_cons.mpr ⟨aI117, List.forall_mem_cons.mpr ⟨aI118, List.forall_mem_cons.mpr ⟨aI119, fun _ h => absurd h List.not_mem_nil⟩⟩⟩⟩⟩⟩⟩⟩⟩⟩⟩⟩⟩⟩⟩⟩⟩⟩⟩⟩⟩⟩⟩⟩⟩⟩⟩⟩⟩⟩⟩⟩⟩⟩⟩⟩⟩⟩⟩⟩
set_option maxRecDepth 100000 in
theorem aMm3 : aML3.all (fun q => (aMt q.1).1.all aIm) = true := by decide +kernel
set_option maxRecDepth 100000 in
theorem aMi3 : ∀ q ∈ aML3, (aMt q.1).1.all (aIc q.1) = true := List.forall_mem_cons.mpr ⟨aI120, List.forall_mem_cons.mpr ⟨aI121, List.forall_mem_cons.mpr ⟨aI122, List.forall_mem_cons.mpr ⟨aI123, List.forall_mem_cons.mpr ⟨aI124, List.forall_mem_cons.mpr ⟨aI125, List.forall_mem_cons.mpr ⟨aI126, List.forall_mem_cons.mpr ⟨aI127, List.forall_mem_cons.mpr ⟨aI128, List.forall_mem_cons.mpr ⟨aI129, List.forall_mem_cons.mpr ⟨aI130, List.forall_mem_cons.mpr ⟨aI131, List.forall_mem_cons.mpr ⟨aI132, List.forall_mem_cons.mpr ⟨aI133, List.forall_mem_cons.mpr ⟨aI134, List.forall_mem_cons.mpr ⟨aI135, List.forall_mem_cons.mpr ⟨aI136, List.forall_mem_cons.mpr ⟨aI137, List.forall_mem_cons.mpr ⟨aI138, List.forall_mem_cons.mpr ⟨aI139, List.forall_mem_cons.mpr ⟨aI140, List.forall_mem_cons.mpr ⟨aI141, List.forall_mem_cons.mpr ⟨aI142, List.forall_mem_cons.mpr ⟨aI143, List.forall_mem_cons.mpr ⟨aI144, List.forall_mem_cons.mpr ⟨aI145, List.forall_mem_cons.mpr ⟨aI146, List.forall_mem_cons.mpr ⟨aI147, List.forall_mem_cons.mpr ⟨aI148, List.forall_mem_cons.mpr ⟨aI149, List.forall_mem_cons.mpr ⟨aI150, List.forall_mem_cons.mpr ⟨aI151, List.forall_mem_cons.mpr ⟨aI152, List.forall_mem_cons.mpr ⟨aI153, List.forall_mem_cons.mpr ⟨aI154, List.forall_mem_cons.mpr ⟨aI155, List.forall_mem_cons.mpr ⟨aI156, List.forall_mem_cons.mpr ⟨aI157, List.forall_mem_cons.mpr ⟨aI158, List.forall_mem_cons.mpr ⟨aI159, fun _ h => absurd h List.not_mem_nil⟩⟩⟩⟩⟩⟩⟩⟩⟩⟩⟩⟩⟩⟩⟩⟩⟩⟩⟩⟩⟩⟩⟩⟩⟩⟩⟩⟩⟩⟩⟩⟩⟩⟩⟩⟩⟩⟩⟩⟩
set_option maxRecDepth 100000 in
theorem aMm4 : aML4.all (fun q => (aMt q.1).1.all aIm) = true := by decide +kernel
set_option maxRecDepth 100000 in
theorem aMi4 : ∀ q ∈ aML4, (aMt q.1).1.all (aIc q.1) = true := List.forall_mem_cons.mpr ⟨aI160, List.forall_mem_cons.mpr ⟨aI161, List.forall_mem_cons.mpr ⟨aI162, List.forall_mem_cons.mpr ⟨aI163, List.forall_mem_cons.mpr ⟨aI164, List.forall_mem_cons.mpr ⟨aI165, List.forall_mem_cons.mpr ⟨aI166, List.forall_mem_cons.mpr ⟨aI167, List.forall_mem_cons.mpr ⟨aI168, List.forall_mem_cons.mpr ⟨aI169, List.forall_mem_cons.mpr ⟨aI170, List.forall_mem_cons.mpr ⟨aI171, List.forall_mem_cons.mpr ⟨aI172, List.forall_mem_cons.mpr ⟨aI173, List.forall_mem_cons.mpr ⟨aI174, List.forall_mem_cons.mpr ⟨aI175, List.forall_mem_cons.mpr ⟨aI176, List.forall_mem_cons.mpr ⟨aI177, List.forall_mem_cons.mpr ⟨aI178, List.forall_mem_cons.mpr ⟨aI179, List.forall_mem_cons.mpr ⟨aI180, List.forall_mem_cons.mpr ⟨aI181, List.forall_mem_cons.mpr ⟨aI182, List.forall_mem_cons.mpr ⟨aI183, List.forall_mem_cons.mpr ⟨aI184, List.forall_mem_cons.mpr ⟨aI185, List.forall_mem_cons.mpr ⟨aI186, List.forall_mem_cons.mpr ⟨aI187, List.forall_mem_cons.mpr ⟨aI188, List.forall_mem_cons.mpr ⟨aI189, List.forall_mem_cons.mpr ⟨aI190, List.forall_mem_cons.mpr ⟨aI191, List.forall_mem_cons.mpr ⟨aI192, List.forall_mem_cons.mpr ⟨aI193, List.forall_mem_cons.mpr ⟨aI194, List.forall_mem_cons.mpr ⟨aI195, List.forall_mem_cons.mpr ⟨aI196, List.forall_mem_cons.mpr ⟨aI197, List.forall_mem_cons.mpr ⟨aI198, List.forall_mem_cons.mpr ⟨aI199, fun _ h => absurd h List.not_mem_nil⟩⟩⟩⟩⟩⟩⟩⟩⟩⟩⟩⟩⟩⟩⟩⟩⟩⟩⟩⟩⟩⟩⟩⟩⟩⟩⟩⟩⟩⟩⟩⟩⟩⟩⟩⟩⟩⟩⟩⟩
set_option maxRecDepth 100000 in
theorem aMm5 : aML5.all (fun q => (aMt q.1).1.all aIm) = true := by decide +kernel
set_option maxRecDepth 100000 in
theorem aMi5 : ∀ q ∈ aML5, (aMt q.1).1.all (aIc q.1) = true := List.forall_mem_cons.mpr ⟨aI200, List.forall_mem_cons.mpr ⟨aI201, List.forall_mem_cons.mpr ⟨aI202, List.forall_mem_cons.mpr ⟨aI203, List.forall_mem_cons.mpr ⟨aI204, List.forall_mem_cons.mpr ⟨aI205, List.forall_mem_cons.mpr ⟨aI206, List.forall_mem_cons.mpr ⟨aI207, List.forall_mem_cons.mpr ⟨aI208, List.forall_mem_cons.mpr ⟨aI209, List.forall_mem_cons.mpr ⟨aI210, List.forall_mem_cons.mpr ⟨aI211, List.forall_mem_cons.mpr ⟨aI212, List.forall_mem_cons.mpr ⟨aI213, List.forall_mem_cons.mpr ⟨aI214, List.forall_mem_cons.mpr ⟨aI215, List.forall_mem_cons.mpr ⟨aI216, List.forall_mem_cons.mpr ⟨aI217, List.forall_mem_cons.mpr ⟨aI218, List.forall_mem_cons.mpr ⟨aI219, List.forall_mem_cons.mpr ⟨aI220, List.forall_mem_cons.mpr ⟨aI221, List.forall_mem_cons.mpr ⟨aI222, List.forall_mem_cons.mpr ⟨aI223, List.forall_mem_cons.mpr ⟨aI224, List.forall_mem_cons.mpr ⟨aI225, List.forall_mem_cons.mpr ⟨aI226, List.forall_mem_cons.mpr ⟨aI227, List.forall_mem_cons.mpr ⟨aI228, List.forall_mem_cons.mpr ⟨aI229, List.forall_mem_cons.mpr ⟨aI230, List.forall_mem_cons.mpr ⟨aI231, List.forall_mem_cons.mpr ⟨aI232, List.forall_mem_cons.mpr ⟨aI233, List.forall_mem_cons.mpr ⟨aI234, List.forall_mem_cons.mpr ⟨aI235, List.forall_mem_cons.mpr ⟨aI236, List.forall_mem_cons.mpr ⟨aI237, List.forall_mem_cons.mpr ⟨aI238, List.forall_mem_cons.mpr ⟨aI239, fun _ h => absurd h List.not_mem_nil⟩⟩⟩⟩⟩⟩⟩⟩⟩⟩⟩⟩⟩⟩⟩⟩⟩⟩⟩⟩⟩⟩⟩⟩⟩⟩⟩⟩⟩⟩⟩⟩⟩⟩⟩⟩⟩⟩⟩⟩
set_option maxRecDepth 100000 in
theorem aMm6 : aML6.all (fun q => (aMt q.1).1.all aIm) = true := by decide +kernel
set_option maxRecDepth 100000 in
theorem aMi6 : ∀ q ∈ aML6, (aMt q.1).1.all (aIc q.1) = true := List.forall_mem_cons.mpr ⟨aI240, List.forall_mem_cons.mpr ⟨aI241, List.forall_mem_cons.mpr ⟨aI242, List.forall_mem_cons.mpr ⟨aI243, List.forall_mem_cons.mpr ⟨aI244, List.forall_mem_cons.mpr ⟨aI245, List.forall_mem_cons.mpr ⟨aI246, List.forall_mem_cons.mpr ⟨aI247, List.forall_mem_cons.mpr ⟨aI248, List.forall_mem_cons.mpr ⟨aI249, List.forall_mem_cons.mpr ⟨aI250, List.forall_mem_cons.mpr ⟨aI251, List.forall_mem_cons.mpr ⟨aI252, List.forall_mem_cons.mpr ⟨aI253, List.forall_mem_cons.mpr ⟨aI254, List.forall_mem_cons.mpr ⟨aI255, List.forall_mem_cons.mpr ⟨aI256, List.forall_mem_cons.mpr ⟨aI257, List.forall_mem_cons.mpr ⟨aI258, List.forall_mem_cons.mpr ⟨aI259, List.forall_mem_cons.mpr ⟨aI260, List.forall_mem_cons.mpr ⟨aI261, List.forall_mem_cons.mpr ⟨aI262, List.forall_mem_cons.mpr ⟨aI263, List.forall_mem_cons.mpr ⟨aI264, List.forall_mem_cons.mpr ⟨aI265, List.forall_mem_cons.mpr ⟨aI266, List.forall_mem_cons.mpr ⟨aI267, List.forall_mem_cons.mpr ⟨aI268, List.forall_mem_cons.mpr ⟨aI269, List.forall_mem_cons.mpr ⟨aI270, List.forall_mem_cons.mpr ⟨aI271, List.forall_mem_cons.mpr ⟨aI272, List.forall_mem_cons.mpr ⟨aI273, List.forall_mem_cons.mpr ⟨aI274, List.forall_mem_cons.mpr ⟨aI275, List.forall_mem_cons.mpr ⟨aI276, List.forall_mem_cons.mpr ⟨aI277, List.forall_mem_cons.mpr ⟨aI278, List.forall_mem_cons.mpr ⟨aI279, fun _ h => absurd h List.not_mem_nil⟩⟩⟩⟩⟩⟩⟩⟩⟩⟩⟩⟩⟩⟩⟩⟩⟩⟩⟩⟩⟩⟩⟩⟩⟩⟩⟩⟩⟩⟩⟩⟩⟩⟩⟩⟩⟩⟩⟩⟩
set_option maxRecDepth 100000 in
theorem aMm7 : aML7.all (fun q => (aMt q.1).1.all aIm) = true := by decide +kernel
set_option maxRecDepth 100000 in
theorem aMi7 : ∀ q ∈ aML7, (aMt q.1).1.all (aIc q.1) = true := List.forall_mem_cons.mpr ⟨aI280, List.forall_mem_cons.mpr ⟨aI281, List.forall_mem_cons.mpr ⟨aI282, List.forall_mem_cons.mpr ⟨aI283, List.forall_mem_cons.mpr ⟨aI284, List.forall_mem_cons.mpr ⟨aI285, List.forall_mem_cons.mpr ⟨aI286, List.forall_mem_cons.mpr ⟨aI287, List.forall_mem_cons.mpr ⟨aI288, List.forall_mem_cons.mpr ⟨aI289, List.forall_mem_cons.mpr ⟨aI290, List.forall_mem_cons.mpr ⟨aI291, List.forall_mem_cons.mpr ⟨aI292, List.forall_mem_cons.mpr ⟨aI293, List.forall_mem_cons.mpr ⟨aI294, List.forall_mem_cons.mpr ⟨aI295, fun _ h => absurd h List.not_mem_nil⟩⟩⟩⟩⟩⟩⟩⟩⟩⟩⟩⟩⟩⟩⟩⟩
theorem aM_ic : ∀ q ∈ aML, (aMt q.1).1.all (aIc q.1) = true ∧ (aMt q.1).1.all aIm = true := by
  intro q h
  unfold aML at h
  simp only [List.mem_append] at h
  rcases h with h | h | h | h | h | h | h | h
  · exact ⟨aMi0 q h, List.all_eq_true.mp aMm0 q h⟩
  · exact ⟨aMi1 q h, List.all_eq_true.mp aMm1 q h⟩
  · exact ⟨aMi2 q h, List.all_eq_true.mp aMm2 q h⟩
  · exact ⟨aMi3 q h, List.all_eq_true.mp aMm3 q h⟩
  · exact ⟨aMi4 q h, List.all_eq_true.mp aMm4 q h⟩
  · exact ⟨aMi5 q h, List.all_eq_true.mp aMm5 q h⟩
  · exact ⟨aMi6 q h, List.all_eq_true.mp aMm6 q h⟩
  · exact ⟨aMi7 q h, List.all_eq_true.mp aMm7 q h⟩
theorem aM_lt : ∀ q ∈ aML, q.1 < 303 := by decide +kernel
theorem aFind_mem {pc : Nat} {x : Instr × Nat × Nat × Nat × Nat × Int} : ∀ {l : List aN}, aFind l pc = some x → (pc, x) ∈ l
  | [], h => by cases h
  | (q, y) :: l, h => by
    unfold aFind at h
    split at h
    · rename_i hq
      cases h
      subst hq
      exact List.mem_cons_self
    · exact List.mem_cons_of_mem _ (aFind_mem h)
theorem aInstr {k g pc : Nat} {i : Instr} {len t a b : Nat} {z : Int} (hp : aPl k g = true) (hf : aFind (aMt k).1 pc = some (i, len, t, a, b, z)) : decode (aNm k).2.1 pc = .ok (i, len) ∧ aIl k pc i len t a b z = true ∧ aIm (pc, i, len, t, a, b, z) = true := by
  obtain ⟨p1, p2, p3, p4, hq⟩ := aPl_get hp
  obtain ⟨h1, h2⟩ := aM_ic _ hq
  have hm := aFind_mem hf
  have h3 := List.all_eq_true.mp h1 _ hm
  unfold aIc at h3
  rw [Bool.and_eq_true, decide_eq_true_eq] at h3
  exact ⟨h3.1, h3.2, List.all_eq_true.mp h2 _ hm⟩
end
section
section Snd4
variable {p : Program} {l : Launch} {e : Env} {R : Room} {s : State} {m : MethodId} {args : Array Value} {below : List Frame} {meth : Method} {c : Code} {Q : State → Prop} {G : aEnv} {d k : Nat} {g0 : Nat × Nat} {C : Nat → Nat → List Value → aS → Option aO} {K : Nat → List Value → List Value → aS → Option aO} {o : aO} {i : Instr} {len t a b : Nat} {z : Int} {pc : Nat} {L st : List Value} {σ : aS}
theorem as_return (hE : aEnd p l e R s m args below meth c Q G k g0 o) (hd : decode (aNm k).2.1 pc = .ok (.return_, len)) (hl : aIl k pc .return_ len t a b z = true) (h : aAct C K d k .return_ len t a b z pc L st σ = some o) : aGo p l e R s m args below meth c Q G k g0 pc L st σ := by
  intro ad H locs ls hI hS hL hv g1 g2 hn
  obtain rfl : len = 1 := Nat.eq_of_beq_eq_true hl
  simp only [aAct] at h
  split at h
  · rename_i hr
    cases h
    exact hE pc _ none ad H locs ls hd (Or.inl ⟨rfl, hr, rfl⟩) rfl hI hS
  · cases h
theorem as_lreturn (hE : aEnd p l e R s m args below meth c Q G k g0 o) (hd : decode (aNm k).2.1 pc = .ok (.lreturn, len)) (hl : aIl k pc .lreturn len t a b z = true) (h : aAct C K d k .lreturn len t a b z pc L st σ = some o) : aGo p l e R s m args below meth c Q G k g0 pc L st σ := by
  intro ad H locs ls hI hS hL hv g1 g2 hn
  obtain rfl : len = 1 := Nat.eq_of_beq_eq_true hl
  simp only [aAct] at h
  split at h
  · rename_i x hr
    cases h
    exact hE pc _ (some (.long x)) ad H locs ls hd (Or.inr (Or.inl ⟨rfl, hr, x, rfl⟩)) rfl hI hS
  · cases h
theorem as_ireturn (hE : aEnd p l e R s m args below meth c Q G k g0 o) (hd : decode (aNm k).2.1 pc = .ok (.ireturn, len)) (hl : aIl k pc .ireturn len t a b z = true) (h : aAct C K d k .ireturn len t a b z pc L st σ = some o) : aGo p l e R s m args below meth c Q G k g0 pc L st σ := by
  intro ad H locs ls hI hS hL hv g1 g2 hn
  obtain rfl : len = 1 := Nat.eq_of_beq_eq_true hl
  simp only [aAct] at h
  split at h
  · rename_i x hr
    cases h
    exact hE pc _ (some (.int x)) ad H locs ls hd (Or.inr (Or.inr ⟨rfl, x, rfl, Or.inl hr⟩)) rfl hI hS
  · rename_i x hr
    split at h
    · rename_i hx
      cases h
      exact hE pc _ (some (.int x)) ad H locs ls hd (Or.inr (Or.inr ⟨rfl, x, rfl, Or.inr (Or.inl ⟨hr, hx⟩)⟩)) rfl hI hS
    · cases h
  · rename_i x hr
    split at h
    · rename_i hx
      cases h
      exact hE pc _ (some (.int x)) ad H locs ls hd (Or.inr (Or.inr ⟨rfl, x, rfl, Or.inr (Or.inr (Or.inl ⟨hr, hx⟩))⟩)) rfl hI hS
    · cases h
  · rename_i x hr
    split at h
    · rename_i hx
      cases h
      exact hE pc _ (some (.int x)) ad H locs ls hd (Or.inr (Or.inr ⟨rfl, x, rfl, Or.inr (Or.inr (Or.inr ⟨hr, hx⟩))⟩)) rfl hI hS
    · cases h
  · cases h
set_option maxHeartbeats 4000000 in
theorem aAct_snd (X : aFx p R s m args meth c G d k g0 o) (hK : aKok p l e R s m args below meth c Q G k g0 K o) (hC : aCok l G C) (hE : aEnd p l e R s m args below meth c Q G k g0 o) (ho : o.1 ≠ none) (hd : decode (aNm k).2.1 pc = .ok (i, len)) (hl : aIl k pc i len t a b z = true) (hm : aIm (pc, i, len, t, a, b, z) = true) (h : aAct C K d k i len t a b z pc L st σ = some o) : aGo p l e R s m args below meth c Q G k g0 pc L st σ := by
  have l3 : ∀ {x : Bool}, (Nat.beq len 3 && x) = true → len = 3 ∧ x = true := fun q => by
    rw [Bool.and_eq_true] at q
    exact ⟨Nat.eq_of_beq_eq_true q.1, q.2⟩
  cases i with
  | iconst n => exact as_iconst X hK hd hl h
  | bipush n => exact as_bipush X hK hd hl h
  | sipush n => exact as_sipush X hK hd hl h
  | lconst n => exact as_lconst X hK hd hl h
  | iload_n n => exact as_iload_n X hK hd hl h
  | iload n => exact as_iload X hK hd hl h
  | lload_n n => exact as_lload_n X hK hd hl h
  | lload n => exact as_lload X hK hd hl h
  | aload_n n => exact as_aload_n X hK hd hl h
  | aload n => exact as_aload X hK hd hl h
  | istore_n n => exact as_istore_n X hK hd hl h
  | istore n => exact as_istore X hK hd hl h
  | lstore_n n => exact as_lstore_n X hK hd hl h
  | lstore n => exact as_lstore X hK hd hl h
  | astore_n n => exact as_astore_n X hK hd hl h
  | astore n => exact as_astore X hK hd hl h
  | iinc j n => exact as_iinc X hK hd hl h
  | iadd => exact as_iadd X hK hd hl h
  | isub => exact as_isub X hK hd hl h
  | imul => exact as_imul X hK hd hl h
  | iand => exact as_iand X hK hd hl h
  | ior => exact as_ior X hK hd hl h
  | ixor => exact as_ixor X hK hd hl h
  | ishl => exact as_ishl X hK hd hl h
  | ishr => exact as_ishr X hK hd hl h
  | iushr => exact as_iushr X hK hd hl h
  | idiv => exact as_idiv X hK hd hl h
  | irem => exact as_irem X hK hd hl h
  | ldiv => exact as_ldiv X hK hd hl h
  | lrem => exact as_lrem X hK hd hl h
  | ladd => exact as_ladd X hK hd hl h
  | lmul => exact as_lmul X hK hd hl h
  | lcmp => exact as_lcmp X hK hd hl h
  | ineg => exact as_ineg X hK hd hl h
  | i2l => exact as_i2l X hK hd hl h
  | l2i => exact as_l2i X hK hd hl h
  | i2b => exact as_i2b X hK hd hl h
  | i2s => exact as_i2s X hK hd hl h
  | i2c => exact as_i2c X hK hd hl h
  | dup => exact as_dup X hK hd hl h
  | pop => exact as_pop X hK hd hl h
  | dup_x1 => exact as_dup_x1 X hK hd hl h
  | dup2 => exact as_dup2 X hK hd hl h
  | goto n => exact as_goto X hK hd hl h
  | tableswitch df lo hi offs => exact as_tableswitch X hK hd hl h
  | lookupswitch df ps => exact as_lookupswitch X hK hd hl h
  | getfield n => exact as_getfield X hK hd hl h
  | putfield n => exact as_putfield X hK hd hl h
  | iaload => exact as_iaload X hK hd hl h
  | baload => exact as_baload X hK hd hl h
  | caload => exact as_caload X hK hd hl h
  | laload => exact as_laload X hK hd hl h
  | iastore => exact as_iastore X hK hd hl h
  | bastore => exact as_bastore X hK hd hl h
  | castore => exact as_castore X hK hd hl h
  | lastore => exact as_lastore X hK hd hl h
  | arraylength => exact as_arraylength X hK hd hl h
  | ldc n => exact as_ldc X hK hd hl h
  | ldc_w n => exact as_ldc_w X hK hd hl h
  | ldc2_w n => exact as_ldc2_w X hK hd hl h
  | getstatic n => exact as_getstatic X hK hd hl h
  | return_ => exact as_return hE hd hl h
  | lreturn => exact as_lreturn hE hd hl h
  | ireturn => exact as_ireturn hE hd hl h
  | ifCond cd off =>
    cases cd with
    | eq => exact as_if_eq X hK hd hl h
    | ne => exact as_if_ne X hK hd hl h
    | lt => exact as_if_lt X hK hd hl h
    | ge => exact as_if_ge X hK hd hl h
    | gt => exact as_if_gt X hK hd hl h
    | le => exact as_if_le X hK hd hl h
  | if_icmp cd off =>
    cases cd with
    | eq => exact as_icmp_eq X hK hd hl h
    | ne => exact as_icmp_ne X hK hd hl h
    | lt => exact as_icmp_lt X hK hd hl h
    | ge => exact as_icmp_ge X hK hd hl h
    | gt => exact as_icmp_gt X hK hd hl h
    | le => exact as_icmp_le X hK hd hl h
  | newarray ty =>
    cases ty with
    | byte => exact as_newarray_byte X hK hd hl h
    | char => exact as_newarray_char X hK hd hl h
    | int => exact as_newarray_int X hK hd hl h
    | long => exact as_newarray_long X hK hd hl h
    | boolean => exact as_newarray_boolean X hK hd hl h
    | float => cases hm
    | double => cases hm
    | short => cases hm
  | new ix =>
    have h' := h
    unfold aAct at h'
    dsimp only at h'
    split at h'
    · exact as_new12 X hK hd hl h
    · cases h'
      exact absurd rfl ho
    · cases h'
  | invokestatic ix =>
    have h' := h
    unfold aAct at h'
    dsimp only at h'
    have hl' := hl
    unfold aIl at hl'
    dsimp only at hl'
    obtain ⟨e3, hq'⟩ := l3 hl'
    subst e3
    split at h'
    · exact as_static X hK hC hm hd hq' h'
    · exact as_staticN X hK hC hm hd hq' h'
    · exact as_copy X hK hd hl h
    · exact as_mmax X hK hd hl h
    · exact as_mmin X hK hd hl h
    · cases h'
  | invokevirtual ix =>
    have h' := h
    unfold aAct at h'
    dsimp only at h'
    have hl' := hl
    unfold aIl at hl'
    dsimp only at hl'
    obtain ⟨e3, hq'⟩ := l3 hl'
    subst e3
    split at h'
    · split at h'
      · rename_i hrc
        obtain ⟨hl1, hl2⟩ := (Bool.and_eq_true _ _).mp hq'
        exact as_virtual X hK hC hm hd hl1 hl2 hrc h'
      · cases h'
    · cases hm
    · cases h'
  | invokespecial ix =>
    have h' := h
    unfold aAct at h'
    dsimp only at h'
    have hl' := hl
    unfold aIl at hl'
    dsimp only at hl'
    obtain ⟨e3, hq'⟩ := l3 hl'
    subst e3
    split at h'
    · split at h'
      · rename_i hrc
        obtain ⟨hl1, hl2⟩ := (Bool.and_eq_true _ _).mp hq'
        exact as_special X hK hC hm hd (Or.inl hl1) hl2 hrc h'
      · cases h'
    · split at h'
      · rename_i hrc
        obtain ⟨hl1, hl2⟩ := (Bool.and_eq_true _ _).mp hq'
        exact as_special X hK hC hm hd (Or.inr hl1) hl2 hrc h'
      · cases h'
    · exact as_objInit X hK hd hl h
    · cases h'
  | _ => cases h
end Snd4
end
section
/-! counters only grow; answers are ints or longs -/
def aLe (σ : aS) (o : aO) : Prop := (σ.1.2.1 ≤ o.2.1.2.1 ∧ σ.1.2.2 ≤ o.2.1.2.2) ∧ ∀ w, o.1 = some (some w) → (∃ x, w = .int x) ∨ ∃ x, w = .long x
set_option maxHeartbeats 4000000 in
set_option maxRecDepth 100000 in
theorem aAct_le {C : Nat → Nat → List Value → aS → Option aO} {K : Nat → List Value → List Value → aS → Option aO} {d k : Nat} {i : Instr} {len t a b : Nat} {z : Int} {pc : Nat} {L st : List Value} {σ : aS} {o : aO}
    (hK : ∀ pc' L' st' σ', K pc' L' st' σ' = some o → aLe σ' o) (hC : ∀ e k' as τ q, C e k' as τ = some q → aLe τ q) (h : aAct C K d k i len t a b z pc L st σ = some o) : aLe σ o := by
  have kc : aCall C d k a st σ (fun r τ => K (pc + 3) L r τ) = some o → aLe σ o := by
    intro h
    obtain ⟨e', v, st', τ, -, -, -, g1, -, g3, -⟩ := aCall_use h
    have h1 := (hC _ _ _ _ _ g1).1
    have h2 := hK _ _ _ _ g3
    exact ⟨⟨Nat.le_trans h1.1 h2.1.1, Nat.le_trans h1.2 h2.1.2⟩, h2.2⟩
  have kn : ∀ {n : Nat} {L' st' : List Value} {pc' : Nat}, K pc' L' st' (aNew σ 1 n) = some o → aLe σ o := by
    intro n L' st' pc' h
    have h2 := hK _ _ _ _ h
    exact ⟨⟨Nat.le_trans (Nat.le_add_right _ _) h2.1.1, Nat.le_trans (Nat.le_add_right _ _) h2.1.2⟩, h2.2⟩
  have ks : ∀ {σ' : aS} {L' st' : List Value} {pc' : Nat}, K pc' L' st' σ' = some o → σ'.1 = σ.1 → aLe σ o := by
    intro σ' L' st' pc' h e
    have h2 := hK _ _ _ _ h
    unfold aLe at h2 ⊢
    rw [e] at h2
    exact h2
  have ke0 : aLe σ (some none, σ) := ⟨⟨Nat.le_refl _, Nat.le_refl _⟩, fun w hw => by cases hw⟩
  have ke1 : ∀ x : Int32, aLe σ (some (some (.int x)), σ) := fun x => ⟨⟨Nat.le_refl _, Nat.le_refl _⟩, fun w hw => by cases hw; exact Or.inl ⟨_, rfl⟩⟩
  have ke2 : ∀ x : Int64, aLe σ (some (some (.long x)), σ) := fun x => ⟨⟨Nat.le_refl _, Nat.le_refl _⟩, fun w hw => by cases hw; exact Or.inr ⟨_, rfl⟩⟩
  have ket : aLe σ (none, aNew σ 0 6) := ⟨⟨Nat.le_add_right _ _, Nat.le_add_right _ _⟩, fun w hw => by cases hw⟩
  unfold aAct at h
  split at h
  all_goals first
    | exact hK _ _ _ _ h
    | (cases h; done)
    | skip
  all_goals (repeat' split at h)
  all_goals first
    | (cases h; done)
    | exact hK _ _ _ _ h
    | exact kc h
    | exact kn h
    | exact ks h rfl
    | (cases h; exact ke1 _)
    | (cases h; exact ke2 _)
    | (cases h; exact ke0)
    | (cases h; exact ket)
    | (rcases aCallH_use h with ⟨e, -, -, -, ⟨v, st', τ, g1, -, g3, g4⟩ | ⟨τ, g1, g3, g4⟩⟩
       · have h1 := (hC _ _ _ _ _ g1).1
         have h2 := hK _ _ _ _ g3
         exact ⟨⟨Nat.le_trans h1.1 h2.1.1, Nat.le_trans h1.2 h2.1.2⟩, h2.2⟩
       · have h1 := (hC _ _ _ _ _ g1).1
         have h2 := hK _ _ _ _ g3
         exact ⟨⟨Nat.le_trans h1.1 h2.1.1, Nat.le_trans h1.2 h2.1.2⟩, h2.2⟩)
theorem aX_grow : ∀ (n d k pc : Nat) (L st : List Value) (σ : aS) (o : aO), aX n d k pc L st σ = some o → aLe σ o := by
  intro n
  induction n with
  | zero => intro d k pc L st σ o h; cases h
  | succ n ih =>
    intro d k pc L st σ o h
    unfold aX aStep at h
    split at h
    · cases h
    · exact aAct_le (fun _ _ _ _ q => ih _ _ _ _ _ _ _ q) (fun _ _ _ _ _ q => ih _ _ _ _ _ _ _ q) h
/-- every frame of a method of the tables -/
def aFr (n : Nat) : Prop := ∀ (d k g pc : Nat) (L st : List Value) (σ : aS) (o : aO), aX n d k pc L st σ = some o → aPl k g = true → o.1 ≠ none →
  ∀ (p : Program) (l : Launch) (e : Env) (R : Room) (s : State) (m : MethodId) (args : Array Value) (below : List Frame) (meth : Method) (c : Code) (Q : State → Prop) (G : aEnv) (g0 : Nat × Nat),
    aFx p R s m args meth c G d k g0 o → aEnd p l e R s m args below meth c Q G k g0 o → aGo p l e R s m args below meth c Q G k g0 pc L st σ
theorem aSlots_len (as : List Value) (h : ∀ v ∈ as, ∀ x, v ≠ .double x) : (aSlots as).length = aW as := by
  induction as with
  | nil => rfl
  | cons v r ih =>
    have ih := ih (fun w hw => h w (List.mem_cons_of_mem _ hw))
    have hv := h v List.mem_cons_self
    unfold aW at ih ⊢
    rw [List.map_cons, List.sum_cons]
    cases v with
    | long x => simp [aSlots, Value.category, ih]; omega
    | double x => exact absurd rfl (hv x)
    | _ => simp [aSlots, Value.category, ih]; omega
theorem aSlots_get {G : aEnv} {ad : List Nat} : ∀ (as : List Value) (i j : Nat) (v : Value), (∀ v ∈ as, ∀ x, v ≠ .double x) → (aSlots as)[j]? = some v → v ≠ aNo → (i + j, aUp G ad v) ∈ lv_args i (as.map (aUp G ad))
  | [], i, j, v, _, h, _ => by cases h
  | w :: r, i, j, v, hd, h, hv => by
    have hw := hd w List.mem_cons_self
    have hr : ∀ v ∈ r, ∀ x, v ≠ .double x := fun u hu => hd u (List.mem_cons_of_mem _ hu)
    rw [List.map_cons]
    unfold lv_args
    rw [aUp_cat]
    by_cases hl : w.category = 2
    · obtain ⟨x, rfl⟩ : ∃ x, w = .long x := by
        cases w with
        | long x => exact ⟨x, rfl⟩
        | double x => exact absurd rfl (hw x)
        | _ => cases hl
      rw [if_pos hl]
      match j, h with
      | 0, h => cases h; exact List.mem_cons_self
      | 1, h => cases h; exact absurd rfl hv
      | j + 2, h =>
        have := aSlots_get (G := G) (ad := ad) r (i + 2) j v hr h hv
        rw [show i + (j + 2) = i + 2 + j by omega]
        exact List.mem_cons_of_mem _ this
    · rw [if_neg hl]
      have e : aSlots (w :: r) = w :: aSlots r := by
        cases w with
        | long x => exact absurd rfl hl
        | _ => rfl
      rw [e] at h
      match j, h with
      | 0, h => cases h; exact List.mem_cons_self
      | j + 1, h =>
        have := aSlots_get (G := G) (ad := ad) r (i + 1) j v hr h hv
        rw [show i + (j + 1) = i + 1 + j by omega]
        exact List.mem_cons_of_mem _ this
theorem aSlots_mem {n : Nat} : ∀ (as : List Value), aVs n as → ∀ v ∈ aSlots as, aVk n v
  | [], _, v, h => by cases h
  | w :: r, hd, v, h => by
    have hr := aSlots_mem r hd.t
    cases w with
    | long x =>
      rcases List.mem_cons.mp h with rfl | h
      · trivial
      · rcases List.mem_cons.mp h with rfl | h
        · trivial
        · exact hr v h
    | _ =>
      rcases List.mem_cons.mp h with rfl | h
      · exact hd.h
      · exact hr v h
theorem aLr_entry {G : aEnv} {ad : List Nat} {n N : Nat} {as : List Value} (hv : aVs n as) (hw : aW as ≤ N) : aLr G ad n ((lg_sl (as.map (aUp G ad)) ++ List.replicate (N - (lg_sl (as.map (aUp G ad))).length) Slot.unset).toArray) (aLoc N as) ∧ (aLoc N as).length = N := by
  have hd : ∀ v ∈ as, ∀ x, v ≠ .double x := fun v h x q => by
    have := hv v h
    rw [q] at this
    exact this
  have hl := aSlots_len as hd
  have hsl : (lg_sl (as.map (aUp G ad))).length = aW as := by
    rw [← aW_map (G := G) (ad := ad) as]
    generalize as.map (aUp G ad) = vs
    unfold lg_sl
    induction vs with
    | nil => rfl
    | cons v r ih =>
      rw [List.flatMap_cons, List.length_append, ih, List.map_cons, List.sum_cons]
      rcases lv_cat v with h | h <;> simp [h]
  have hlen : (aLoc N as).length = N := by
    unfold aLoc
    rw [List.length_append, List.length_replicate, hl]
    omega
  have hh := lv_entry (as.map (aUp G ad)) (n := N) (by rw [hsl]; exact hw)
  refine ⟨⟨hh.1.trans hlen.symm, hh.2.1, fun i v hi hne => ?_, fun v h => ?_⟩, hlen⟩
  · unfold aLoc at hi
    by_cases hlt : i < (aSlots as).length
    · rw [List.getElem?_append_left hlt] at hi
      have h1 := aSlots_get (G := G) (ad := ad) as 0 i v hd hi hne
      rw [Nat.zero_add] at h1
      exact hh.2.2 _ h1
    · rw [List.getElem?_append_right (by omega)] at hi
      have := List.mem_of_getElem? hi
      rw [List.mem_replicate] at this
      exact absurd this.2 hne
  · unfold aLoc at h
    rcases List.mem_append.mp h with h | h
    · exact aSlots_mem as hv v h
    · rw [(List.mem_replicate.mp h).2]
      trivial
theorem aRk_0 {r : Option FieldType} (h : aRk r = 0) : r = none := by
  cases r with
  | none => rfl
  | some ty => cases ty <;> cases h
theorem aRk_s {r : Option FieldType} {n : Nat} (hn : n = 1 ∨ n = 2 ∨ n = 3 ∨ n = 4 ∨ n = 5) (h : aRk r = n) : (n = 1 ∧ r = some .int) ∨ (n = 2 ∧ r = some .long) ∨ (n = 3 ∧ r = some .boolean) ∨ (n = 4 ∧ r = some .char) ∨ (n = 5 ∧ r = some .byte) := by
  cases r with
  | none => simp [aRk] at h; omega
  | some ty => cases ty <;> simp [aRk] at h <;> subst h <;> simp at hn ⊢
/-- a method by its contract, out of its frames -/
theorem aMet_of {n : Nat} (IH : aFr n) {l : Launch} {G : aEnv} {d k g : Nat} {as : List Value} {σ τ : aS} {v : Option Value} (h : aX n d k 0 (aLoc (aMt k).2.2.1 as) [] σ = some (some v, τ)) (hp : aPl k g = true) (hw : aW as ≤ (aMt k).2.2.1) : aMet l G d k as σ v τ := by
  obtain ⟨⟨le1, le2⟩, hvv⟩ := aX_grow _ _ _ _ _ _ _ _ h
  refine ⟨⟨le1, le2⟩, fun w hw => ?_, fun ad had hvs => ?_⟩
  · rcases hvv w (by rw [hw]) with ⟨x, rfl⟩ | ⟨x, rfl⟩ <;> trivial
  · obtain ⟨w1, w2, wk, wl, wr, wpl, wm, wv⟩ := aKn_of hp
    refine Met.ofW (cc := (aNm k).2.1) (maxL := (aMt k).2.2.1) (ret := (aNm k).2.2) wpl rfl ?_
    intro p e s m args below meth c s₁ B hml hPc
    obtain ⟨rfl, hI, hB, hn0⟩ := hPc
    have hlocks := B.notSynchronized
    have hts := atoms_spec (ws := aCd k :: aTb) B.pre
    have hown : s.vm.findClass (aOw (aOn k)) = some m.cls := by
      obtain ⟨p1, p2, p3, p4, hq⟩ := aPl_get hp
      rw [← aOn_ok k (aM_lt _ hq)]
      exact findClass_of_methodNamed B.named
    have X : aFx p (headSpec (aCd k :: aTb) (aRm d k (τ.1.2.1 - σ.1.2.1) (τ.1.2.2 - σ.1.2.2))).room s m (as.map (aUp G ad)).toArray meth c (aG0 G ad) d k (σ.1.2.1, σ.1.2.2) (some v, τ) :=
      ⟨B.exec, B.bytes, hml, hown, fun w hw => hts w (List.mem_cons_of_mem _ hw), hB, hn0, (name_of_methodNamed B.named B.method).1, Nat.le_refl _, Nat.le_refl _, by show τ.1.2.1 ≤ σ.1.2.1 + (τ.1.2.1 - σ.1.2.1); omega, by show τ.1.2.2 ≤ σ.1.2.2 + (τ.1.2.2 - σ.1.2.2); omega⟩
    have hE : aEnd p l e (headSpec (aCd k :: aTb) (aRm d k (τ.1.2.1 - σ.1.2.1) (τ.1.2.2 - σ.1.2.2))).room s m (as.map (aUp G ad)).toArray below meth c (MQ below (aPost G ad v τ) (as.map (aUp G ad)).toArray s (τ.1.2.1 - σ.1.2.1) (τ.1.2.2 - σ.1.2.2) (aA G)) (aG0 G ad) k (σ.1.2.1, σ.1.2.2) (some v, τ) := by
      intro pc i v' ad' H locs ls hd hlast hov hI' hS'
      cases hov
      have hq : ∀ t : State, t.heap = H → aPost G ad v τ (as.map (aUp G ad)).toArray s (.returned (v.map (aUp G ad'))) t := by
        intro t ht
        obtain ⟨x, hx, hI2⟩ := aInv_out hI hI'
        subst hx
        exact ⟨x, rfl, by rw [ht]; exact hI2, hS'.F ht⟩
      have hf : ∀ q ∈ locs, aA G q.base := hS'.2.2
      rcases hlast with ⟨rfl, hr, rfl⟩ | ⟨rfl, hr, x, rfl⟩ | ⟨rfl, x, rfl, hr⟩
      · exact W.vret B.exec B.bytes (by rw [B.returns]; exact aRk_0 (wk.trans hr)) (fun t ht _ => hq t ht) hf hd hlocks
      · rcases aRk_s (Or.inr (Or.inl hr)) wk with ⟨q, -⟩ | ⟨-, q⟩ | ⟨q, -⟩ | ⟨q, -⟩ | ⟨q, -⟩ <;> first | omega | skip
        exact W.lret B.exec B.bytes (by rw [B.returns]; exact q) (fun t ht _ => hq t ht) hf hd hlocks
      · rcases hr with hr | ⟨hr, hx⟩ | ⟨hr, hx⟩ | ⟨hr, hx⟩
        · rcases aRk_s (Or.inl hr) wk with ⟨-, q⟩ | ⟨q, -⟩ | ⟨q, -⟩ | ⟨q, -⟩ | ⟨q, -⟩ <;> first | omega | skip
          exact W.iret B.exec B.bytes (by rw [B.returns]; exact q) (fun t ht _ => hq t ht) hf hd hlocks
        · rcases aRk_s (Or.inr (Or.inr (Or.inl hr))) wk with ⟨q, -⟩ | ⟨q, -⟩ | ⟨-, q⟩ | ⟨q, -⟩ | ⟨q, -⟩ <;> first | omega | skip
          exact W.zret B.exec B.bytes (by rw [B.returns]; exact q) hx (fun t ht _ => hq t ht) hf hd hlocks
        · rcases aRk_s (Or.inr (Or.inr (Or.inr (Or.inl hr)))) wk with ⟨q, -⟩ | ⟨q, -⟩ | ⟨q, -⟩ | ⟨-, q⟩ | ⟨q, -⟩ <;> first | omega | skip
          exact W.zret B.exec B.bytes (by rw [B.returns]; exact q) hx (fun t ht _ => hq t ht) hf hd hlocks
        · rcases aRk_s (Or.inr (Or.inr (Or.inr (Or.inr hr)))) wk with ⟨q, -⟩ | ⟨q, -⟩ | ⟨q, -⟩ | ⟨q, -⟩ | ⟨-, q⟩ <;> first | omega | skip
          exact W.zret B.exec B.bytes (by rw [B.returns]; exact q) hx (fun t ht _ => hq t ht) hf hd hlocks
    have hgo := IH d k g 0 _ [] σ _ h hp (by intro q; cases q) p l e _ s m _ below meth c _ (aG0 G ad) (σ.1.2.1, σ.1.2.2) X hE
    obtain ⟨hLr, hLl⟩ := aLr_entry (G := aG0 G ad) (ad := ad) hvs hw
    have := hgo ad s.heap [] _ (aInv_in hI) va_S.rf hLr (fun v hv => by cases hv) (Nat.le_refl _) (Nat.le_refl _) hLl
    rw [lg_entry_eq]
    simp only [Nat.sub_self] at this
    exact this
theorem aFr_all : ∀ n, aFr n := by
  intro n
  induction n with
  | zero => intro d k g pc L st σ o h; cases h
  | succ n ih =>
    intro d k g pc L st σ o h hp ho p l e R s m args below meth c Q G g0 X hE
    unfold aX aStep at h
    split at h
    · cases h
    · rename_i i len t a b z hf
      obtain ⟨hd, hl, hm⟩ := aInstr hp hf
      refine aAct_snd X ?_ ?_ hE ho hd hl hm h
      · intro pc' L' st' σ' hk
        have hle := aX_grow _ _ _ _ _ _ _ _ hk
        exact ⟨ih d k g pc' L' st' σ' o hk hp ho p l e R s m args below meth c Q G g0 X hE, hle.1.1, hle.1.2⟩
      · intro e' k' as τ0 v τ g' hc hp' _ hw
        exact aMet_of ih hc hp' hw
/-- WHAT A METHOD COMES TO at the abstract machine, it does at the machine -/
theorem aMet_all {l : Launch} {G : aEnv} {d k g : Nat} {as : List Value} {σ τ : aS} {v : Option Value} (h : aF d k as σ = some (some v, τ)) (hp : aPl k g = true) (hw : aW as ≤ (aMt k).2.2.1) : aMet l G d k as σ v τ := by
  obtain ⟨n, hn⟩ := aE_to h
  exact aMet_of (aFr_all n) hn hp hw
end
section
/-! blocks: a method from a place of it up to its loops, its calls, its end -/
def aPT : List (List Nat) := [[], [], [], [], [], [], [8, 10, 11, 13, 15, 24, 26, 28, 30, 32, 33, 34, 38, 42, 43, 46], [9, 0], [], [8, 0, 0, 0], [10, 12, 0, 0, 0], [], [14, 0], [], [0, 16, 17, 18, 0, 19, 20, 21, 22, 0, 23, 0], [], [], [], [], [], [], [], [], [25], [], [27], [], [29], [], [31, 0, 0], [], [], [], [35, 0, 36, 37], [], [], [], [39, 0, 40, 41], [], [], [], [0, 0, 0, 0, 0], [44, 45, 0], [], [], [], [48, 0, 49, 50, 0, 51, 0, 52, 0, 53, 0, 54, 0, 0, 0, 0, 0, 0, 0, 55, 56, 57, 0, 0, 58, 59, 0, 60, 61, 0, 0, 0, 62, 63, 64, 0, 0, 0, 65, 66, 67], [], [], [], [], [], [], [], [], [], [], [], [], [], [], [], [], [], [], [], [], []]
/-- the references behind the constructors: the script's length, the row that is read, the rule's row -/
def aP1 (sl rd rl a j : Nat) : Nat := if a = 0 then (if j = 0 then sl else 0) else if a = 46 then (if j = 14 then rd else if j = 20 then rl else (aPT.getD 46 []).getD j 0) else (aPT.getD a []).getD j 0
def aIs : List Nat → Nat → Bool
  | [], _ => false
  | q :: l, pc => if Nat.beq q pc = true then true else aIs l pc
noncomputable def aGc (cs : List Nat) : Nat → Nat → Nat → Nat → List Value → List Value → aS → Option aO
  | 0, d, k, pc, L, st, σ => aE d k pc L st σ
  | n + 1, d, k, pc, L, st, σ => match aIs cs pc with
    | true => aE d k pc L st σ
    | false => aStep (fun e k' as τ => aF e k' as τ) (fun pc' L' st' τ => aGc cs n d k pc' L' st' τ) d k pc L st σ
theorem aGc_eq (cs : List Nat) : ∀ (n d k pc : Nat) (L st : List Value) (σ : aS), aGc cs n d k pc L st σ = aE d k pc L st σ := by
  intro n
  induction n with
  | zero => intros; rfl
  | succ n ih =>
    intro d k pc L st σ
    unfold aGc
    split
    · rfl
    · rw [aE_eq]
      congr 1
      funext pc' L' st' τ
      exact ih d k pc' L' st' τ
theorem aBk (cs : List Nat) (n d k pc : Nat) (L st : List Value) (σ : aS) : aE d k pc L st σ = aStep (fun e k' as τ => aF e k' as τ) (fun pc' L' st' τ => aGc cs n d k pc' L' st' τ) d k pc L st σ := by
  rw [aE_eq]
  congr 1
  funext pc' L' st' τ
  exact (aGc_eq cs n d k pc' L' st' τ).symm
end
