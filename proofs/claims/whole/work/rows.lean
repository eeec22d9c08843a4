section
-- ===== PART A: goes FIRST, ahead of the names: the tables' words, and 'selects' of the private methods out of them =====
/-- a private method of a class that the tables say can be made, by its rows of tables_1 -/
def lw_okq (q : MethodName × Nat) : Prop := (q.1.cls ≠ "java/lang/invoke/MethodHandle" ∧ q.1.cls ≠ "java/lang/invoke/VarHandle") ∧ Cond.instantiable q.1.cls q.2 ∈ tables_1 ∧ Cond.privateMethod q.1 ∈ tables_1 ∧ Cond.instanceMethod q.1 ∈ tables_1
theorem lw_p0 : lw_okq (⟨"StonesOver", "shelfAt", "(I)LStonesOver$Shelf;"⟩, 11) := ⟨⟨by decide +kernel, by decide +kernel⟩, List.mem_of_getElem? (i := 18) (by decide +kernel), List.mem_of_getElem? (i := 358) (by decide +kernel), List.mem_of_getElem? (i := 359) (by decide +kernel)⟩
theorem lw_p1 : lw_okq (⟨"StonesOver", "welcomeThree", "(LStonesOver$Shelf;I)Z"⟩, 11) := ⟨⟨by decide +kernel, by decide +kernel⟩, List.mem_of_getElem? (i := 18) (by decide +kernel), List.mem_of_getElem? (i := 370) (by decide +kernel), List.mem_of_getElem? (i := 371) (by decide +kernel)⟩
theorem lw_p2 : lw_okq (⟨"StonesOver$Changes", "forgetOldest", "()V"⟩, 5) := ⟨⟨by decide +kernel, by decide +kernel⟩, List.mem_of_getElem? (i := 135) (by decide +kernel), List.mem_of_getElem? (i := 396) (by decide +kernel), List.mem_of_getElem? (i := 397) (by decide +kernel)⟩
theorem lw_p3 : lw_okq (⟨"StonesOver$Tape", "isLine", "()Z"⟩, 5) := ⟨⟨by decide +kernel, by decide +kernel⟩, List.mem_of_getElem? (i := 113) (by decide +kernel), List.mem_of_getElem? (i := 428) (by decide +kernel), List.mem_of_getElem? (i := 429) (by decide +kernel)⟩
theorem lw_p4 : lw_okq (⟨"StonesOver$Tape", "isChain", "(II)Z"⟩, 5) := ⟨⟨by decide +kernel, by decide +kernel⟩, List.mem_of_getElem? (i := 113) (by decide +kernel), List.mem_of_getElem? (i := 432) (by decide +kernel), List.mem_of_getElem? (i := 433) (by decide +kernel)⟩
theorem lw_p5 : lw_okq (⟨"StonesOver$Tape", "isOperand", "(I)Z"⟩, 5) := ⟨⟨by decide +kernel, by decide +kernel⟩, List.mem_of_getElem? (i := 113) (by decide +kernel), List.mem_of_getElem? (i := 436) (by decide +kernel), List.mem_of_getElem? (i := 437) (by decide +kernel)⟩
theorem lw_p6 : lw_okq (⟨"StonesOver$Tape", "letter", "()I"⟩, 5) := ⟨⟨by decide +kernel, by decide +kernel⟩, List.mem_of_getElem? (i := 113) (by decide +kernel), List.mem_of_getElem? (i := 440) (by decide +kernel), List.mem_of_getElem? (i := 441) (by decide +kernel)⟩
theorem lw_p7 : lw_okq (⟨"StonesOver$Tape", "drawNumber", "()V"⟩, 5) := ⟨⟨by decide +kernel, by decide +kernel⟩, List.mem_of_getElem? (i := 113) (by decide +kernel), List.mem_of_getElem? (i := 447) (by decide +kernel), List.mem_of_getElem? (i := 448) (by decide +kernel)⟩
theorem lw_p8 : lw_okq (⟨"StonesOver$Tape", "draw", "(I)V"⟩, 5) := ⟨⟨by decide +kernel, by decide +kernel⟩, List.mem_of_getElem? (i := 113) (by decide +kernel), List.mem_of_getElem? (i := 451) (by decide +kernel), List.mem_of_getElem? (i := 452) (by decide +kernel)⟩
theorem lw_p9 : lw_okq (⟨"StonesOver$Tape", "isClosed", "(I)Z"⟩, 5) := ⟨⟨by decide +kernel, by decide +kernel⟩, List.mem_of_getElem? (i := 113) (by decide +kernel), List.mem_of_getElem? (i := 458) (by decide +kernel), List.mem_of_getElem? (i := 459) (by decide +kernel)⟩
theorem lw_p10 : lw_okq (⟨"StonesOver$Tape", "isSigned", "(II)Z"⟩, 5) := ⟨⟨by decide +kernel, by decide +kernel⟩, List.mem_of_getElem? (i := 113) (by decide +kernel), List.mem_of_getElem? (i := 462) (by decide +kernel), List.mem_of_getElem? (i := 463) (by decide +kernel)⟩
theorem lw_p11 : lw_okq (⟨"StonesOver$Thought", "withoutText", "(II)I"⟩, 7) := ⟨⟨by decide +kernel, by decide +kernel⟩, List.mem_of_getElem? (i := 61) (by decide +kernel), List.mem_of_getElem? (i := 527) (by decide +kernel), List.mem_of_getElem? (i := 528) (by decide +kernel)⟩
theorem lw_p12 : lw_okq (⟨"StonesOver$Plans", "gatherStones", "(I)V"⟩, 10) := ⟨⟨by decide +kernel, by decide +kernel⟩, List.mem_of_getElem? (i := 157) (by decide +kernel), List.mem_of_getElem? (i := 590) (by decide +kernel), List.mem_of_getElem? (i := 591) (by decide +kernel)⟩
theorem lw_p13 : lw_okq (⟨"StonesOver$Plans", "weighStones", "(II)V"⟩, 10) := ⟨⟨by decide +kernel, by decide +kernel⟩, List.mem_of_getElem? (i := 157) (by decide +kernel), List.mem_of_getElem? (i := 594) (by decide +kernel), List.mem_of_getElem? (i := 595) (by decide +kernel)⟩
theorem lw_p14 : lw_okq (⟨"StonesOver$Plans", "worthOf", "(II)I"⟩, 10) := ⟨⟨by decide +kernel, by decide +kernel⟩, List.mem_of_getElem? (i := 157) (by decide +kernel), List.mem_of_getElem? (i := 604) (by decide +kernel), List.mem_of_getElem? (i := 605) (by decide +kernel)⟩
theorem lw_p15 : lw_okq (⟨"StonesOver$Plans", "mostOf", "(I)I"⟩, 10) := ⟨⟨by decide +kernel, by decide +kernel⟩, List.mem_of_getElem? (i := 157) (by decide +kernel), List.mem_of_getElem? (i := 608) (by decide +kernel), List.mem_of_getElem? (i := 609) (by decide +kernel)⟩
def lw_privs_1 : List (MethodName × Nat) := [(⟨"StonesOver", "shelfAt", "(I)LStonesOver$Shelf;"⟩, 11), (⟨"StonesOver", "welcomeThree", "(LStonesOver$Shelf;I)Z"⟩, 11), (⟨"StonesOver$Changes", "forgetOldest", "()V"⟩, 5), (⟨"StonesOver$Tape", "isLine", "()Z"⟩, 5), (⟨"StonesOver$Tape", "isChain", "(II)Z"⟩, 5), (⟨"StonesOver$Tape", "isOperand", "(I)Z"⟩, 5), (⟨"StonesOver$Tape", "letter", "()I"⟩, 5), (⟨"StonesOver$Tape", "drawNumber", "()V"⟩, 5), (⟨"StonesOver$Tape", "draw", "(I)V"⟩, 5), (⟨"StonesOver$Tape", "isClosed", "(I)Z"⟩, 5), (⟨"StonesOver$Tape", "isSigned", "(II)Z"⟩, 5), (⟨"StonesOver$Thought", "withoutText", "(II)I"⟩, 7), (⟨"StonesOver$Plans", "gatherStones", "(I)V"⟩, 10), (⟨"StonesOver$Plans", "weighStones", "(II)V"⟩, 10), (⟨"StonesOver$Plans", "worthOf", "(II)I"⟩, 10), (⟨"StonesOver$Plans", "mostOf", "(I)I"⟩, 10)]
theorem lw_r1 : ∀ q ∈ lw_privs_1, lw_okq q := List.forall_mem_cons.mpr ⟨lw_p0, List.forall_mem_cons.mpr ⟨lw_p1, List.forall_mem_cons.mpr ⟨lw_p2, List.forall_mem_cons.mpr ⟨lw_p3, List.forall_mem_cons.mpr ⟨lw_p4, List.forall_mem_cons.mpr ⟨lw_p5, List.forall_mem_cons.mpr ⟨lw_p6, List.forall_mem_cons.mpr ⟨lw_p7, List.forall_mem_cons.mpr ⟨lw_p8, List.forall_mem_cons.mpr ⟨lw_p9, List.forall_mem_cons.mpr ⟨lw_p10, List.forall_mem_cons.mpr ⟨lw_p11, List.forall_mem_cons.mpr ⟨lw_p12, List.forall_mem_cons.mpr ⟨lw_p13, List.forall_mem_cons.mpr ⟨lw_p14, List.forall_mem_cons.mpr ⟨lw_p15, fun _ h => absurd h List.not_mem_nil⟩⟩⟩⟩⟩⟩⟩⟩⟩⟩⟩⟩⟩⟩⟩⟩
theorem lw_p16 : lw_okq (⟨"StonesOver$Plans", "together", "(II)I"⟩, 10) := ⟨⟨by decide +kernel, by decide +kernel⟩, List.mem_of_getElem? (i := 157) (by decide +kernel), List.mem_of_getElem? (i := 612) (by decide +kernel), List.mem_of_getElem? (i := 613) (by decide +kernel)⟩
theorem lw_p17 : lw_okq (⟨"StonesOver$Plans", "leastStone", "(IIII)I"⟩, 10) := ⟨⟨by decide +kernel, by decide +kernel⟩, List.mem_of_getElem? (i := 157) (by decide +kernel), List.mem_of_getElem? (i := 625) (by decide +kernel), List.mem_of_getElem? (i := 626) (by decide +kernel)⟩
theorem lw_p18 : lw_okq (⟨"StonesOver", "matchRefusal", "(II)I"⟩, 11) := ⟨⟨by decide +kernel, by decide +kernel⟩, List.mem_of_getElem? (i := 18) (by decide +kernel), List.mem_of_getElem? (i := 688) (by decide +kernel), List.mem_of_getElem? (i := 689) (by decide +kernel)⟩
theorem lw_p19 : lw_okq (⟨"StonesOver$Contest", "placeOf", "(I)I"⟩, 13) := ⟨⟨by decide +kernel, by decide +kernel⟩, List.mem_of_getElem? (i := 194) (by decide +kernel), List.mem_of_getElem? (i := 708) (by decide +kernel), List.mem_of_getElem? (i := 709) (by decide +kernel)⟩
theorem lw_p20 : lw_okq (⟨"StonesOver$Contest", "scoreOf", "(II)I"⟩, 13) := ⟨⟨by decide +kernel, by decide +kernel⟩, List.mem_of_getElem? (i := 194) (by decide +kernel), List.mem_of_getElem? (i := 712) (by decide +kernel), List.mem_of_getElem? (i := 713) (by decide +kernel)⟩
theorem lw_p21 : lw_okq (⟨"StonesOver$Contest", "together", "(II)I"⟩, 13) := ⟨⟨by decide +kernel, by decide +kernel⟩, List.mem_of_getElem? (i := 194) (by decide +kernel), List.mem_of_getElem? (i := 722) (by decide +kernel), List.mem_of_getElem? (i := 723) (by decide +kernel)⟩
theorem lw_p22 : lw_okq (⟨"StonesOver$Contest", "chancesFrom", "(III)J"⟩, 13) := ⟨⟨by decide +kernel, by decide +kernel⟩, List.mem_of_getElem? (i := 194) (by decide +kernel), List.mem_of_getElem? (i := 760) (by decide +kernel), List.mem_of_getElem? (i := 761) (by decide +kernel)⟩
theorem lw_p23 : lw_okq (⟨"StonesOver", "isSpitterAndAngle", "(I)Z"⟩, 11) := ⟨⟨by decide +kernel, by decide +kernel⟩, List.mem_of_getElem? (i := 18) (by decide +kernel), List.mem_of_getElem? (i := 822) (by decide +kernel), List.mem_of_getElem? (i := 823) (by decide +kernel)⟩
theorem lw_p24 : lw_okq (⟨"StonesOver", "marksRefusal", "(I)I"⟩, 11) := ⟨⟨by decide +kernel, by decide +kernel⟩, List.mem_of_getElem? (i := 18) (by decide +kernel), List.mem_of_getElem? (i := 826) (by decide +kernel), List.mem_of_getElem? (i := 827) (by decide +kernel)⟩
theorem lw_p25 : lw_okq (⟨"StonesOver$Acts", "own", "(III)I"⟩, 5) := ⟨⟨by decide +kernel, by decide +kernel⟩, List.mem_of_getElem? (i := 275) (by decide +kernel), List.mem_of_getElem? (i := 971) (by decide +kernel), List.mem_of_getElem? (i := 972) (by decide +kernel)⟩
theorem lw_p26 : lw_okq (⟨"StonesOver$Acts", "from", "(IIII)I"⟩, 5) := ⟨⟨by decide +kernel, by decide +kernel⟩, List.mem_of_getElem? (i := 275) (by decide +kernel), List.mem_of_getElem? (i := 979) (by decide +kernel), List.mem_of_getElem? (i := 980) (by decide +kernel)⟩
theorem lw_p27 : lw_okq (⟨"StonesOver$Acts", "begin", "(I)V"⟩, 5) := ⟨⟨by decide +kernel, by decide +kernel⟩, List.mem_of_getElem? (i := 275) (by decide +kernel), List.mem_of_getElem? (i := 991) (by decide +kernel), List.mem_of_getElem? (i := 992) (by decide +kernel)⟩
theorem lw_p28 : lw_okq (⟨"StonesOver$Acts", "flying", "(III)I"⟩, 5) := ⟨⟨by decide +kernel, by decide +kernel⟩, List.mem_of_getElem? (i := 275) (by decide +kernel), List.mem_of_getElem? (i := 995) (by decide +kernel), List.mem_of_getElem? (i := 996) (by decide +kernel)⟩
theorem lw_p29 : lw_okq (⟨"StonesOver$Acts", "above", "(IIII)I"⟩, 5) := ⟨⟨by decide +kernel, by decide +kernel⟩, List.mem_of_getElem? (i := 275) (by decide +kernel), List.mem_of_getElem? (i := 999) (by decide +kernel), List.mem_of_getElem? (i := 1000) (by decide +kernel)⟩
theorem lw_p30 : lw_okq (⟨"StonesOver$Acts", "ending", "(III)I"⟩, 5) := ⟨⟨by decide +kernel, by decide +kernel⟩, List.mem_of_getElem? (i := 275) (by decide +kernel), List.mem_of_getElem? (i := 1003) (by decide +kernel), List.mem_of_getElem? (i := 1004) (by decide +kernel)⟩
theorem lw_p31 : lw_okq (⟨"StonesOver$Shelf", "lowestBits", "(J)J"⟩, 5) := ⟨⟨by decide +kernel, by decide +kernel⟩, List.mem_of_getElem? (i := 90) (by decide +kernel), List.mem_of_getElem? (i := 1050) (by decide +kernel), List.mem_of_getElem? (i := 1051) (by decide +kernel)⟩
def lw_privs_2 : List (MethodName × Nat) := [(⟨"StonesOver$Plans", "together", "(II)I"⟩, 10), (⟨"StonesOver$Plans", "leastStone", "(IIII)I"⟩, 10), (⟨"StonesOver", "matchRefusal", "(II)I"⟩, 11), (⟨"StonesOver$Contest", "placeOf", "(I)I"⟩, 13), (⟨"StonesOver$Contest", "scoreOf", "(II)I"⟩, 13), (⟨"StonesOver$Contest", "together", "(II)I"⟩, 13), (⟨"StonesOver$Contest", "chancesFrom", "(III)J"⟩, 13), (⟨"StonesOver", "isSpitterAndAngle", "(I)Z"⟩, 11), (⟨"StonesOver", "marksRefusal", "(I)I"⟩, 11), (⟨"StonesOver$Acts", "own", "(III)I"⟩, 5), (⟨"StonesOver$Acts", "from", "(IIII)I"⟩, 5), (⟨"StonesOver$Acts", "begin", "(I)V"⟩, 5), (⟨"StonesOver$Acts", "flying", "(III)I"⟩, 5), (⟨"StonesOver$Acts", "above", "(IIII)I"⟩, 5), (⟨"StonesOver$Acts", "ending", "(III)I"⟩, 5), (⟨"StonesOver$Shelf", "lowestBits", "(J)J"⟩, 5)]
theorem lw_r2 : ∀ q ∈ lw_privs_2, lw_okq q := List.forall_mem_cons.mpr ⟨lw_p16, List.forall_mem_cons.mpr ⟨lw_p17, List.forall_mem_cons.mpr ⟨lw_p18, List.forall_mem_cons.mpr ⟨lw_p19, List.forall_mem_cons.mpr ⟨lw_p20, List.forall_mem_cons.mpr ⟨lw_p21, List.forall_mem_cons.mpr ⟨lw_p22, List.forall_mem_cons.mpr ⟨lw_p23, List.forall_mem_cons.mpr ⟨lw_p24, List.forall_mem_cons.mpr ⟨lw_p25, List.forall_mem_cons.mpr ⟨lw_p26, List.forall_mem_cons.mpr ⟨lw_p27, List.forall_mem_cons.mpr ⟨lw_p28, List.forall_mem_cons.mpr ⟨lw_p29, List.forall_mem_cons.mpr ⟨lw_p30, List.forall_mem_cons.mpr ⟨lw_p31, fun _ h => absurd h List.not_mem_nil⟩⟩⟩⟩⟩⟩⟩⟩⟩⟩⟩⟩⟩⟩⟩⟩
theorem lw_p32 : lw_okq (⟨"StonesOverModel", "adds", "(III)V"⟩, 48) := ⟨⟨by decide +kernel, by decide +kernel⟩, List.mem_of_getElem? (i := 1112) (by decide +kernel), List.mem_of_getElem? (i := 1284) (by decide +kernel), List.mem_of_getElem? (i := 1285) (by decide +kernel)⟩
theorem lw_p33 : lw_okq (⟨"StonesOverModel", "placeOf", "(II)I"⟩, 48) := ⟨⟨by decide +kernel, by decide +kernel⟩, List.mem_of_getElem? (i := 1112) (by decide +kernel), List.mem_of_getElem? (i := 1301) (by decide +kernel), List.mem_of_getElem? (i := 1302) (by decide +kernel)⟩
theorem lw_p34 : lw_okq (⟨"StonesOverModel", "isSpitter", "(J)Z"⟩, 48) := ⟨⟨by decide +kernel, by decide +kernel⟩, List.mem_of_getElem? (i := 1112) (by decide +kernel), List.mem_of_getElem? (i := 1306) (by decide +kernel), List.mem_of_getElem? (i := 1307) (by decide +kernel)⟩
theorem lw_p35 : lw_okq (⟨"StonesOverModel", "becomes", "(II)I"⟩, 48) := ⟨⟨by decide +kernel, by decide +kernel⟩, List.mem_of_getElem? (i := 1112) (by decide +kernel), List.mem_of_getElem? (i := 1323) (by decide +kernel), List.mem_of_getElem? (i := 1324) (by decide +kernel)⟩
theorem lw_p36 : lw_okq (⟨"StonesOverModel", "workOut", "(II)I"⟩, 48) := ⟨⟨by decide +kernel, by decide +kernel⟩, List.mem_of_getElem? (i := 1112) (by decide +kernel), List.mem_of_getElem? (i := 1341) (by decide +kernel), List.mem_of_getElem? (i := 1342) (by decide +kernel)⟩
theorem lw_p37 : lw_okq (⟨"StonesOverModel", "either", "()I"⟩, 48) := ⟨⟨by decide +kernel, by decide +kernel⟩, List.mem_of_getElem? (i := 1112) (by decide +kernel), List.mem_of_getElem? (i := 1345) (by decide +kernel), List.mem_of_getElem? (i := 1346) (by decide +kernel)⟩
theorem lw_p38 : lw_okq (⟨"StonesOverModel", "both", "()I"⟩, 48) := ⟨⟨by decide +kernel, by decide +kernel⟩, List.mem_of_getElem? (i := 1112) (by decide +kernel), List.mem_of_getElem? (i := 1349) (by decide +kernel), List.mem_of_getElem? (i := 1350) (by decide +kernel)⟩
theorem lw_p39 : lw_okq (⟨"StonesOverModel", "compared", "()I"⟩, 48) := ⟨⟨by decide +kernel, by decide +kernel⟩, List.mem_of_getElem? (i := 1112) (by decide +kernel), List.mem_of_getElem? (i := 1353) (by decide +kernel), List.mem_of_getElem? (i := 1354) (by decide +kernel)⟩
theorem lw_p40 : lw_okq (⟨"StonesOverModel", "sums", "()I"⟩, 48) := ⟨⟨by decide +kernel, by decide +kernel⟩, List.mem_of_getElem? (i := 1112) (by decide +kernel), List.mem_of_getElem? (i := 1357) (by decide +kernel), List.mem_of_getElem? (i := 1358) (by decide +kernel)⟩
theorem lw_p41 : lw_okq (⟨"StonesOverModel", "product", "()I"⟩, 48) := ⟨⟨by decide +kernel, by decide +kernel⟩, List.mem_of_getElem? (i := 1112) (by decide +kernel), List.mem_of_getElem? (i := 1361) (by decide +kernel), List.mem_of_getElem? (i := 1362) (by decide +kernel)⟩
theorem lw_p42 : lw_okq (⟨"StonesOverModel", "one", "()I"⟩, 48) := ⟨⟨by decide +kernel, by decide +kernel⟩, List.mem_of_getElem? (i := 1112) (by decide +kernel), List.mem_of_getElem? (i := 1365) (by decide +kernel), List.mem_of_getElem? (i := 1366) (by decide +kernel)⟩
theorem lw_p43 : lw_okq (⟨"StonesOverModel", "byteAt", "()I"⟩, 48) := ⟨⟨by decide +kernel, by decide +kernel⟩, List.mem_of_getElem? (i := 1112) (by decide +kernel), List.mem_of_getElem? (i := 1369) (by decide +kernel), List.mem_of_getElem? (i := 1370) (by decide +kernel)⟩
theorem lw_p44 : lw_okq (⟨"StonesOverModel", "wrong", "()I"⟩, 48) := ⟨⟨by decide +kernel, by decide +kernel⟩, List.mem_of_getElem? (i := 1112) (by decide +kernel), List.mem_of_getElem? (i := 1373) (by decide +kernel), List.mem_of_getElem? (i := 1374) (by decide +kernel)⟩
theorem lw_p45 : lw_okq (⟨"StonesOverModel", "takes", "(I)Z"⟩, 48) := ⟨⟨by decide +kernel, by decide +kernel⟩, List.mem_of_getElem? (i := 1112) (by decide +kernel), List.mem_of_getElem? (i := 1377) (by decide +kernel), List.mem_of_getElem? (i := 1378) (by decide +kernel)⟩
theorem lw_p46 : lw_okq (⟨"StonesOverModel", "landsAt", "(IIIII)I"⟩, 48) := ⟨⟨by decide +kernel, by decide +kernel⟩, List.mem_of_getElem? (i := 1112) (by decide +kernel), List.mem_of_getElem? (i := 1395) (by decide +kernel), List.mem_of_getElem? (i := 1396) (by decide +kernel)⟩
theorem lw_p47 : lw_okq (⟨"StonesOverModel", "ofSpitter", "(II)I"⟩, 48) := ⟨⟨by decide +kernel, by decide +kernel⟩, List.mem_of_getElem? (i := 1112) (by decide +kernel), List.mem_of_getElem? (i := 1399) (by decide +kernel), List.mem_of_getElem? (i := 1400) (by decide +kernel)⟩
def lw_privs_3 : List (MethodName × Nat) := [(⟨"StonesOverModel", "adds", "(III)V"⟩, 48), (⟨"StonesOverModel", "placeOf", "(II)I"⟩, 48), (⟨"StonesOverModel", "isSpitter", "(J)Z"⟩, 48), (⟨"StonesOverModel", "becomes", "(II)I"⟩, 48), (⟨"StonesOverModel", "workOut", "(II)I"⟩, 48), (⟨"StonesOverModel", "either", "()I"⟩, 48), (⟨"StonesOverModel", "both", "()I"⟩, 48), (⟨"StonesOverModel", "compared", "()I"⟩, 48), (⟨"StonesOverModel", "sums", "()I"⟩, 48), (⟨"StonesOverModel", "product", "()I"⟩, 48), (⟨"StonesOverModel", "one", "()I"⟩, 48), (⟨"StonesOverModel", "byteAt", "()I"⟩, 48), (⟨"StonesOverModel", "wrong", "()I"⟩, 48), (⟨"StonesOverModel", "takes", "(I)Z"⟩, 48), (⟨"StonesOverModel", "landsAt", "(IIIII)I"⟩, 48), (⟨"StonesOverModel", "ofSpitter", "(II)I"⟩, 48)]
theorem lw_r3 : ∀ q ∈ lw_privs_3, lw_okq q := List.forall_mem_cons.mpr ⟨lw_p32, List.forall_mem_cons.mpr ⟨lw_p33, List.forall_mem_cons.mpr ⟨lw_p34, List.forall_mem_cons.mpr ⟨lw_p35, List.forall_mem_cons.mpr ⟨lw_p36, List.forall_mem_cons.mpr ⟨lw_p37, List.forall_mem_cons.mpr ⟨lw_p38, List.forall_mem_cons.mpr ⟨lw_p39, List.forall_mem_cons.mpr ⟨lw_p40, List.forall_mem_cons.mpr ⟨lw_p41, List.forall_mem_cons.mpr ⟨lw_p42, List.forall_mem_cons.mpr ⟨lw_p43, List.forall_mem_cons.mpr ⟨lw_p44, List.forall_mem_cons.mpr ⟨lw_p45, List.forall_mem_cons.mpr ⟨lw_p46, List.forall_mem_cons.mpr ⟨lw_p47, fun _ h => absurd h List.not_mem_nil⟩⟩⟩⟩⟩⟩⟩⟩⟩⟩⟩⟩⟩⟩⟩⟩
theorem lw_p48 : lw_okq (⟨"StonesOverModel", "remembered", "()I"⟩, 48) := ⟨⟨by decide +kernel, by decide +kernel⟩, List.mem_of_getElem? (i := 1112) (by decide +kernel), List.mem_of_getElem? (i := 1406) (by decide +kernel), List.mem_of_getElem? (i := 1407) (by decide +kernel)⟩
theorem lw_p49 : lw_okq (⟨"StonesOverModel", "stopsFrom", "(I)I"⟩, 48) := ⟨⟨by decide +kernel, by decide +kernel⟩, List.mem_of_getElem? (i := 1112) (by decide +kernel), List.mem_of_getElem? (i := 1410) (by decide +kernel), List.mem_of_getElem? (i := 1411) (by decide +kernel)⟩
theorem lw_p50 : lw_okq (⟨"StonesOverModel", "inBarrel", "(I)Z"⟩, 48) := ⟨⟨by decide +kernel, by decide +kernel⟩, List.mem_of_getElem? (i := 1112) (by decide +kernel), List.mem_of_getElem? (i := 1414) (by decide +kernel), List.mem_of_getElem? (i := 1415) (by decide +kernel)⟩
theorem lw_p51 : lw_okq (⟨"StonesOverModel", "pointsFrom", "(I)I"⟩, 48) := ⟨⟨by decide +kernel, by decide +kernel⟩, List.mem_of_getElem? (i := 1112) (by decide +kernel), List.mem_of_getElem? (i := 1418) (by decide +kernel), List.mem_of_getElem? (i := 1419) (by decide +kernel)⟩
theorem lw_p52 : lw_okq (⟨"StonesOverModel", "angleFor", "(IIII)I"⟩, 48) := ⟨⟨by decide +kernel, by decide +kernel⟩, List.mem_of_getElem? (i := 1112) (by decide +kernel), List.mem_of_getElem? (i := 1426) (by decide +kernel), List.mem_of_getElem? (i := 1427) (by decide +kernel)⟩
theorem lw_p53 : lw_okq (⟨"StonesOverModel", "pointsAt", "(IIIII)I"⟩, 48) := ⟨⟨by decide +kernel, by decide +kernel⟩, List.mem_of_getElem? (i := 1112) (by decide +kernel), List.mem_of_getElem? (i := 1430) (by decide +kernel), List.mem_of_getElem? (i := 1431) (by decide +kernel)⟩
theorem lw_p54 : lw_okq (⟨"StonesOverModel", "ordersOn", "(IIIIII)V"⟩, 48) := ⟨⟨by decide +kernel, by decide +kernel⟩, List.mem_of_getElem? (i := 1112) (by decide +kernel), List.mem_of_getElem? (i := 1442) (by decide +kernel), List.mem_of_getElem? (i := 1443) (by decide +kernel)⟩
theorem lw_p55 : lw_okq (⟨"StonesOverModel", "pointsBest", "(IIII)I"⟩, 48) := ⟨⟨by decide +kernel, by decide +kernel⟩, List.mem_of_getElem? (i := 1112) (by decide +kernel), List.mem_of_getElem? (i := 1446) (by decide +kernel), List.mem_of_getElem? (i := 1447) (by decide +kernel)⟩
theorem lw_p56 : lw_okq (⟨"StonesOverModel", "beats", "(IIIII)I"⟩, 48) := ⟨⟨by decide +kernel, by decide +kernel⟩, List.mem_of_getElem? (i := 1112) (by decide +kernel), List.mem_of_getElem? (i := 1455) (by decide +kernel), List.mem_of_getElem? (i := 1456) (by decide +kernel)⟩
theorem lw_p57 : lw_okq (⟨"StonesOverModel", "rowIs", "(II)I"⟩, 48) := ⟨⟨by decide +kernel, by decide +kernel⟩, List.mem_of_getElem? (i := 1112) (by decide +kernel), List.mem_of_getElem? (i := 1477) (by decide +kernel), List.mem_of_getElem? (i := 1478) (by decide +kernel)⟩
theorem lw_p58 : lw_okq (⟨"StonesOverModel", "takesRow", "(I)V"⟩, 48) := ⟨⟨by decide +kernel, by decide +kernel⟩, List.mem_of_getElem? (i := 1112) (by decide +kernel), List.mem_of_getElem? (i := 1484) (by decide +kernel), List.mem_of_getElem? (i := 1485) (by decide +kernel)⟩
theorem lw_p59 : lw_okq (⟨"StonesOverModel", "itemAt", "(II)J"⟩, 48) := ⟨⟨by decide +kernel, by decide +kernel⟩, List.mem_of_getElem? (i := 1112) (by decide +kernel), List.mem_of_getElem? (i := 1488) (by decide +kernel), List.mem_of_getElem? (i := 1489) (by decide +kernel)⟩
theorem lw_p60 : lw_okq (⟨"StonesOverModel", "scoreOf", "(II)I"⟩, 48) := ⟨⟨by decide +kernel, by decide +kernel⟩, List.mem_of_getElem? (i := 1112) (by decide +kernel), List.mem_of_getElem? (i := 1492) (by decide +kernel), List.mem_of_getElem? (i := 1493) (by decide +kernel)⟩
theorem lw_p61 : lw_okq (⟨"StonesOverModel", "winnerOf", "(I)I"⟩, 48) := ⟨⟨by decide +kernel, by decide +kernel⟩, List.mem_of_getElem? (i := 1112) (by decide +kernel), List.mem_of_getElem? (i := 1500) (by decide +kernel), List.mem_of_getElem? (i := 1501) (by decide +kernel)⟩
theorem lw_p62 : lw_okq (⟨"StonesOverModel", "lastOn", "(IIII)J"⟩, 48) := ⟨⟨by decide +kernel, by decide +kernel⟩, List.mem_of_getElem? (i := 1112) (by decide +kernel), List.mem_of_getElem? (i := 1509) (by decide +kernel), List.mem_of_getElem? (i := 1510) (by decide +kernel)⟩
theorem lw_p63 : lw_okq (⟨"StonesOverModel", "placeIn", "(I)I"⟩, 48) := ⟨⟨by decide +kernel, by decide +kernel⟩, List.mem_of_getElem? (i := 1112) (by decide +kernel), List.mem_of_getElem? (i := 1517) (by decide +kernel), List.mem_of_getElem? (i := 1518) (by decide +kernel)⟩
def lw_privs_4 : List (MethodName × Nat) := [(⟨"StonesOverModel", "remembered", "()I"⟩, 48), (⟨"StonesOverModel", "stopsFrom", "(I)I"⟩, 48), (⟨"StonesOverModel", "inBarrel", "(I)Z"⟩, 48), (⟨"StonesOverModel", "pointsFrom", "(I)I"⟩, 48), (⟨"StonesOverModel", "angleFor", "(IIII)I"⟩, 48), (⟨"StonesOverModel", "pointsAt", "(IIIII)I"⟩, 48), (⟨"StonesOverModel", "ordersOn", "(IIIIII)V"⟩, 48), (⟨"StonesOverModel", "pointsBest", "(IIII)I"⟩, 48), (⟨"StonesOverModel", "beats", "(IIIII)I"⟩, 48), (⟨"StonesOverModel", "rowIs", "(II)I"⟩, 48), (⟨"StonesOverModel", "takesRow", "(I)V"⟩, 48), (⟨"StonesOverModel", "itemAt", "(II)J"⟩, 48), (⟨"StonesOverModel", "scoreOf", "(II)I"⟩, 48), (⟨"StonesOverModel", "winnerOf", "(I)I"⟩, 48), (⟨"StonesOverModel", "lastOn", "(IIII)J"⟩, 48), (⟨"StonesOverModel", "placeIn", "(I)I"⟩, 48)]
theorem lw_r4 : ∀ q ∈ lw_privs_4, lw_okq q := List.forall_mem_cons.mpr ⟨lw_p48, List.forall_mem_cons.mpr ⟨lw_p49, List.forall_mem_cons.mpr ⟨lw_p50, List.forall_mem_cons.mpr ⟨lw_p51, List.forall_mem_cons.mpr ⟨lw_p52, List.forall_mem_cons.mpr ⟨lw_p53, List.forall_mem_cons.mpr ⟨lw_p54, List.forall_mem_cons.mpr ⟨lw_p55, List.forall_mem_cons.mpr ⟨lw_p56, List.forall_mem_cons.mpr ⟨lw_p57, List.forall_mem_cons.mpr ⟨lw_p58, List.forall_mem_cons.mpr ⟨lw_p59, List.forall_mem_cons.mpr ⟨lw_p60, List.forall_mem_cons.mpr ⟨lw_p61, List.forall_mem_cons.mpr ⟨lw_p62, List.forall_mem_cons.mpr ⟨lw_p63, fun _ h => absurd h List.not_mem_nil⟩⟩⟩⟩⟩⟩⟩⟩⟩⟩⟩⟩⟩⟩⟩⟩
theorem lw_p64 : lw_okq (⟨"StonesOverModel", "winsWith", "(III)Z"⟩, 48) := ⟨⟨by decide +kernel, by decide +kernel⟩, List.mem_of_getElem? (i := 1112) (by decide +kernel), List.mem_of_getElem? (i := 1525) (by decide +kernel), List.mem_of_getElem? (i := 1526) (by decide +kernel)⟩
theorem lw_p65 : lw_okq (⟨"StonesOverModel", "isSa", "(I)Z"⟩, 48) := ⟨⟨by decide +kernel, by decide +kernel⟩, List.mem_of_getElem? (i := 1112) (by decide +kernel), List.mem_of_getElem? (i := 1541) (by decide +kernel), List.mem_of_getElem? (i := 1542) (by decide +kernel)⟩
theorem lw_p66 : lw_okq (⟨"StonesOverModel", "firstFalse", "(IIII)I"⟩, 48) := ⟨⟨by decide +kernel, by decide +kernel⟩, List.mem_of_getElem? (i := 1112) (by decide +kernel), List.mem_of_getElem? (i := 1545) (by decide +kernel), List.mem_of_getElem? (i := 1546) (by decide +kernel)⟩
theorem lw_p67 : lw_okq (⟨"StonesOverModel", "isBody", "(I)Z"⟩, 48) := ⟨⟨by decide +kernel, by decide +kernel⟩, List.mem_of_getElem? (i := 1112) (by decide +kernel), List.mem_of_getElem? (i := 1590) (by decide +kernel), List.mem_of_getElem? (i := 1591) (by decide +kernel)⟩
theorem lw_p68 : lw_okq (⟨"StonesOverModel", "spitsAs", "(II)I"⟩, 48) := ⟨⟨by decide +kernel, by decide +kernel⟩, List.mem_of_getElem? (i := 1112) (by decide +kernel), List.mem_of_getElem? (i := 1594) (by decide +kernel), List.mem_of_getElem? (i := 1595) (by decide +kernel)⟩
theorem lw_p69 : lw_okq (⟨"StonesOverModel", "begins", "(I)V"⟩, 48) := ⟨⟨by decide +kernel, by decide +kernel⟩, List.mem_of_getElem? (i := 1112) (by decide +kernel), List.mem_of_getElem? (i := 1598) (by decide +kernel), List.mem_of_getElem? (i := 1599) (by decide +kernel)⟩
theorem lw_p70 : lw_okq (⟨"StonesOverModel", "landsAs", "(II)I"⟩, 48) := ⟨⟨by decide +kernel, by decide +kernel⟩, List.mem_of_getElem? (i := 1112) (by decide +kernel), List.mem_of_getElem? (i := 1602) (by decide +kernel), List.mem_of_getElem? (i := 1603) (by decide +kernel)⟩
theorem lw_p71 : lw_okq (⟨"StonesOverModel", "rollsAs", "(II)I"⟩, 48) := ⟨⟨by decide +kernel, by decide +kernel⟩, List.mem_of_getElem? (i := 1112) (by decide +kernel), List.mem_of_getElem? (i := 1606) (by decide +kernel), List.mem_of_getElem? (i := 1607) (by decide +kernel)⟩
theorem lw_p72 : lw_okq (⟨"StonesOverModel", "tellsAs", "(II)I"⟩, 48) := ⟨⟨by decide +kernel, by decide +kernel⟩, List.mem_of_getElem? (i := 1112) (by decide +kernel), List.mem_of_getElem? (i := 1610) (by decide +kernel), List.mem_of_getElem? (i := 1611) (by decide +kernel)⟩
theorem lw_p73 : lw_okq (⟨"StonesOverModel", "refusal", "(II)I"⟩, 48) := ⟨⟨by decide +kernel, by decide +kernel⟩, List.mem_of_getElem? (i := 1112) (by decide +kernel), List.mem_of_getElem? (i := 1630) (by decide +kernel), List.mem_of_getElem? (i := 1631) (by decide +kernel)⟩
theorem lw_p74 : lw_okq (⟨"StonesOverModel", "kindOf", "(I)I"⟩, 48) := ⟨⟨by decide +kernel, by decide +kernel⟩, List.mem_of_getElem? (i := 1112) (by decide +kernel), List.mem_of_getElem? (i := 1649) (by decide +kernel), List.mem_of_getElem? (i := 1650) (by decide +kernel)⟩
def lw_privs_5 : List (MethodName × Nat) := [(⟨"StonesOverModel", "winsWith", "(III)Z"⟩, 48), (⟨"StonesOverModel", "isSa", "(I)Z"⟩, 48), (⟨"StonesOverModel", "firstFalse", "(IIII)I"⟩, 48), (⟨"StonesOverModel", "isBody", "(I)Z"⟩, 48), (⟨"StonesOverModel", "spitsAs", "(II)I"⟩, 48), (⟨"StonesOverModel", "begins", "(I)V"⟩, 48), (⟨"StonesOverModel", "landsAs", "(II)I"⟩, 48), (⟨"StonesOverModel", "rollsAs", "(II)I"⟩, 48), (⟨"StonesOverModel", "tellsAs", "(II)I"⟩, 48), (⟨"StonesOverModel", "refusal", "(II)I"⟩, 48), (⟨"StonesOverModel", "kindOf", "(I)I"⟩, 48)]
theorem lw_r5 : ∀ q ∈ lw_privs_5, lw_okq q := List.forall_mem_cons.mpr ⟨lw_p64, List.forall_mem_cons.mpr ⟨lw_p65, List.forall_mem_cons.mpr ⟨lw_p66, List.forall_mem_cons.mpr ⟨lw_p67, List.forall_mem_cons.mpr ⟨lw_p68, List.forall_mem_cons.mpr ⟨lw_p69, List.forall_mem_cons.mpr ⟨lw_p70, List.forall_mem_cons.mpr ⟨lw_p71, List.forall_mem_cons.mpr ⟨lw_p72, List.forall_mem_cons.mpr ⟨lw_p73, List.forall_mem_cons.mpr ⟨lw_p74, fun _ h => absurd h List.not_mem_nil⟩⟩⟩⟩⟩⟩⟩⟩⟩⟩⟩
def lw_privs : List (MethodName × Nat) := lw_privs_1 ++ (lw_privs_2 ++ (lw_privs_3 ++ (lw_privs_4 ++ (lw_privs_5))))
def lw_tbl : List Cond := k2_sels lw_privs ++ tables_1
theorem lw_privs_ok : ∀ q ∈ lw_privs, lw_okq q := by
  show ∀ q ∈ lw_privs_1 ++ (lw_privs_2 ++ (lw_privs_3 ++ (lw_privs_4 ++ (lw_privs_5)))), lw_okq q
  exact List.forall_mem_append.mpr ⟨lw_r1, List.forall_mem_append.mpr ⟨lw_r2, List.forall_mem_append.mpr ⟨lw_r3, List.forall_mem_append.mpr ⟨lw_r4, lw_r5⟩⟩⟩⟩
end
section
def RX0 : String := "StonesOver$Acts"
def TX0 : u_T := fun k => match k with
  | 0 => ("StonesOver$Acts", "kinds", "[I", true)
  | 1 => ("StonesOver$Acts", "traced", "[I", true)
  | 2 => ("StonesOver$Acts", "bodies", "I", false)
  | 3 => ("StonesOver$Acts", "ran", "I", false)
  | _ => ("StonesOver$Acts", "number", "I", false)
def tyX0 : Nat → FieldType := fun k => match k with
  | 0 => .array .int
  | 1 => .array .int
  | 2 => .int
  | 3 => .int
  | _ => .int
abbrev wsX00 : List Cond := u_ws RX0 TX0 5
theorem nmX0 : ∀ a, a < 5 → ∀ b, b < 5 → a ≠ b → (TX0 a).2.1 ≠ (TX0 b).2.1 := by decide +kernel
theorem tyX0_ok : ∀ k, k < 5 → parseFieldDescriptor (TX0 k).2.2.1 = some (tyX0 k) := by decide +kernel
abbrev cX0_init : ByteArray := prog_2_method_1_code
def yX0_init : MethodName := ⟨RX0, "<init>", "()V"⟩
abbrev cX0_isKind : ByteArray := prog_2_method_2_code
def yX0_isKind : MethodName := ⟨RX0, "isKind", "(I)Z"⟩
abbrev cX0_isUnder : ByteArray := prog_2_method_3_code
def yX0_isUnder : MethodName := ⟨RX0, "isUnder", "(II)Z"⟩
abbrev cX0_isBody : ByteArray := prog_2_method_4_code
def yX0_isBody : MethodName := ⟨RX0, "isBody", "(I)Z"⟩
abbrev cX0_isFull : ByteArray := prog_2_method_5_code
def yX0_isFull : MethodName := ⟨RX0, "isFull", "()Z"⟩
abbrev cX0_size : ByteArray := prog_2_method_6_code
def yX0_size : MethodName := ⟨RX0, "size", "()I"⟩
abbrev cX0_store : ByteArray := prog_2_method_7_code
def yX0_store : MethodName := ⟨RX0, "store", "(I)I"⟩
abbrev cX0_kindOf : ByteArray := prog_2_method_8_code
def yX0_kindOf : MethodName := ⟨RX0, "kindOf", "(I)I"⟩
abbrev cX0_perform : ByteArray := prog_2_method_9_code
def yX0_perform : MethodName := ⟨RX0, "perform", "(III)I"⟩
abbrev cX0_tracedAt : ByteArray := prog_2_method_10_code
def yX0_tracedAt : MethodName := ⟨RX0, "tracedAt", "(I)I"⟩
abbrev cX0_howManyRan : ByteArray := prog_2_method_11_code
def yX0_howManyRan : MethodName := ⟨RX0, "howManyRan", "()I"⟩
abbrev cX0_own : ByteArray := prog_2_method_12_code
def yX0_own : MethodName := ⟨RX0, "own", "(III)I"⟩
abbrev cX0_above : ByteArray := prog_2_method_13_code
def yX0_above : MethodName := ⟨RX0, "above", "(IIII)I"⟩
abbrev cX0_from : ByteArray := prog_2_method_14_code
def yX0_from : MethodName := ⟨RX0, "from", "(IIII)I"⟩
abbrev cX0_bodyFrom : ByteArray := prog_2_method_15_code
def yX0_bodyFrom : MethodName := ⟨RX0, "bodyFrom", "(II)I"⟩
abbrev cX0_begin : ByteArray := prog_2_method_16_code
def yX0_begin : MethodName := ⟨RX0, "begin", "(I)V"⟩
abbrev cX0_flying : ByteArray := prog_2_method_17_code
def yX0_flying : MethodName := ⟨RX0, "flying", "(III)I"⟩
abbrev cX0_ending : ByteArray := prog_2_method_18_code
def yX0_ending : MethodName := ⟨RX0, "ending", "(III)I"⟩
def RX1 : String := "StonesOver$Changes"
def TX1 : u_T := fun k => match k with
  | 0 => ("StonesOver$Changes", "cells", "[I", true)
  | 1 => ("StonesOver$Changes", "before", "[I", true)
  | 2 => ("StonesOver$Changes", "after", "[I", true)
  | 3 => ("StonesOver$Changes", "done", "I", false)
  | _ => ("StonesOver$Changes", "kept", "I", false)
def tyX1 : Nat → FieldType := fun k => match k with
  | 0 => .array .int
  | 1 => .array .int
  | 2 => .array .int
  | 3 => .int
  | _ => .int
abbrev wsX10 : List Cond := u_ws RX1 TX1 5
theorem nmX1 : ∀ a, a < 5 → ∀ b, b < 5 → a ≠ b → (TX1 a).2.1 ≠ (TX1 b).2.1 := by decide +kernel
theorem tyX1_ok : ∀ k, k < 5 → parseFieldDescriptor (TX1 k).2.2.1 = some (tyX1 k) := by decide +kernel
abbrev cX1_init : ByteArray := prog_3_method_1_code
def yX1_init : MethodName := ⟨RX1, "<init>", "()V"⟩
abbrev cX1_note : ByteArray := prog_3_method_2_code
def yX1_note : MethodName := ⟨RX1, "note", "(III)V"⟩
abbrev cX1_undoable : ByteArray := prog_3_method_3_code
def yX1_undoable : MethodName := ⟨RX1, "undoable", "()I"⟩
abbrev cX1_stepBack : ByteArray := prog_3_method_4_code
def yX1_stepBack : MethodName := ⟨RX1, "stepBack", "(LStonesOver$Lane;)I"⟩
abbrev cX1_stepOn : ByteArray := prog_3_method_5_code
def yX1_stepOn : MethodName := ⟨RX1, "stepOn", "(LStonesOver$Lane;)I"⟩
abbrev cX1_forgetOldest : ByteArray := prog_3_method_6_code
def yX1_forgetOldest : MethodName := ⟨RX1, "forgetOldest", "()V"⟩
def RX2 : String := "StonesOver$Contest"
def TX2 : u_T := fun k => match k with
  | 0 => ("StonesOver$Contest", "lane", "LStonesOver$Lane;", true)
  | 1 => ("StonesOver$Contest", "thought", "LStonesOver$Thought;", true)
  | 2 => ("StonesOver$Contest", "who", "[I", true)
  | 3 => ("StonesOver$Contest", "scores", "[I", true)
  | 4 => ("StonesOver$Contest", "without", "[I", true)
  | 5 => ("StonesOver$Contest", "with", "[I", true)
  | 6 => ("StonesOver$Contest", "size", "I", false)
  | 7 => ("StonesOver$Contest", "stones", "I", false)
  | 8 => ("StonesOver$Contest", "rule", "I", false)
  | 9 => ("StonesOver$Contest", "need", "I", false)
  | 10 => ("StonesOver$Contest", "slips", "I", false)
  | 11 => ("StonesOver$Contest", "above", "J", false)
  | _ => ("StonesOver$Contest", "bits", "I", false)
def tyX2 : Nat → FieldType := fun k => match k with
  | 0 => .object "StonesOver$Lane"
  | 1 => .object "StonesOver$Thought"
  | 2 => .array .int
  | 3 => .array .int
  | 4 => .array .int
  | 5 => .array .int
  | 6 => .int
  | 7 => .int
  | 8 => .int
  | 9 => .int
  | 10 => .int
  | 11 => .long
  | _ => .int
abbrev wsX20 : List Cond := u_ws RX2 TX2 13
theorem nmX2 : ∀ a, a < 13 → ∀ b, b < 13 → a ≠ b → (TX2 a).2.1 ≠ (TX2 b).2.1 := by decide +kernel
theorem tyX2_ok : ∀ k, k < 13 → parseFieldDescriptor (TX2 k).2.2.1 = some (tyX2 k) := by decide +kernel
abbrev cX2_init : ByteArray := prog_4_method_1_code
def yX2_init : MethodName := ⟨RX2, "<init>", "(LStonesOver$Lane;LStonesOver$Thought;)V"⟩
abbrev cX2_gather : ByteArray := prog_4_method_2_code
def yX2_gather : MethodName := ⟨RX2, "gather", "(LStonesOver$Shelf;II)V"⟩
abbrev cX2_size : ByteArray := prog_4_method_3_code
def yX2_size : MethodName := ⟨RX2, "size", "()I"⟩
abbrev cX2_scoreAt : ByteArray := prog_4_method_4_code
def yX2_scoreAt : MethodName := ⟨RX2, "scoreAt", "(I)I"⟩
abbrev cX2_spitterAt : ByteArray := prog_4_method_5_code
def yX2_spitterAt : MethodName := ⟨RX2, "spitterAt", "(I)I"⟩
abbrev cX2_firstPlace : ByteArray := prog_4_method_6_code
def yX2_firstPlace : MethodName := ⟨RX2, "firstPlace", "()I"⟩
abbrev cX2_greatestWinningPlace : ByteArray := prog_4_method_7_code
def yX2_greatestWinningPlace : MethodName := ⟨RX2, "greatestWinningPlace", "(I)I"⟩
abbrev cX2_leastHandicap : ByteArray := prog_4_method_8_code
def yX2_leastHandicap : MethodName := ⟨RX2, "leastHandicap", "(I)I"⟩
abbrev cX2_weighLast : ByteArray := prog_4_method_9_code
def yX2_weighLast : MethodName := ⟨RX2, "weighLast", "()V"⟩
abbrev cX2_chanceAbove : ByteArray := prog_4_method_10_code
def yX2_chanceAbove : MethodName := ⟨RX2, "chanceAbove", "()J"⟩
abbrev cX2_chanceBelow : ByteArray := prog_4_method_11_code
def yX2_chanceBelow : MethodName := ⟨RX2, "chanceBelow", "()J"⟩
abbrev cX2_runBits : ByteArray := prog_4_method_12_code
def yX2_runBits : MethodName := ⟨RX2, "runBits", "()I"⟩
abbrev cX2_chancesFrom : ByteArray := prog_4_method_13_code
def yX2_chancesFrom : MethodName := ⟨RX2, "chancesFrom", "(III)J"⟩
abbrev cX2_twelveTo : ByteArray := prog_4_method_14_code
def yX2_twelveTo : MethodName := ⟨RX2, "twelveTo", "(I)J"⟩
abbrev cX2_placeOf : ByteArray := prog_4_method_15_code
def yX2_placeOf : MethodName := ⟨RX2, "placeOf", "(I)I"⟩
abbrev cX2_scoreOf : ByteArray := prog_4_method_16_code
def yX2_scoreOf : MethodName := ⟨RX2, "scoreOf", "(II)I"⟩
abbrev cX2_together : ByteArray := prog_4_method_17_code
def yX2_together : MethodName := ⟨RX2, "together", "(II)I"⟩
def RX3 : String := "StonesOver$Deeds"
def TX3 : u_T := fun k => match k with
  | 0 => ("StonesOver$Deeds", "numbers", "[I", true)
  | 1 => ("StonesOver$Deeds", "picture", "[I", true)
  | _ => ("StonesOver$Deeds", "isPictured", "Z", false)
def tyX3 : Nat → FieldType := fun k => match k with
  | 0 => .array .int
  | 1 => .array .int
  | _ => .boolean
abbrev wsX30 : List Cond := u_ws RX3 TX3 3
theorem nmX3 : ∀ a, a < 3 → ∀ b, b < 3 → a ≠ b → (TX3 a).2.1 ≠ (TX3 b).2.1 := by decide +kernel
theorem tyX3_ok : ∀ k, k < 3 → parseFieldDescriptor (TX3 k).2.2.1 = some (tyX3 k) := by decide +kernel
abbrev cX3_init : ByteArray := prog_5_method_1_code
def yX3_init : MethodName := ⟨RX3, "<init>", "()V"⟩
abbrev cX3_sinceRest : ByteArray := prog_5_method_2_code
def yX3_sinceRest : MethodName := ⟨RX3, "sinceRest", "(I)I"⟩
abbrev cX3_note : ByteArray := prog_5_method_3_code
def yX3_note : MethodName := ⟨RX3, "note", "(IIZZ)V"⟩
abbrev cX3_beginAnew : ByteArray := prog_5_method_4_code
def yX3_beginAnew : MethodName := ⟨RX3, "beginAnew", "()I"⟩
abbrev cX3_ofOne : ByteArray := prog_5_method_5_code
def yX3_ofOne : MethodName := ⟨RX3, "ofOne", "(II)I"⟩
abbrev cX3_ofAll : ByteArray := prog_5_method_6_code
def yX3_ofAll : MethodName := ⟨RX3, "ofAll", "(I)I"⟩
abbrev cX3_store : ByteArray := prog_5_method_7_code
def yX3_store : MethodName := ⟨RX3, "store", "()I"⟩
abbrev cX3_layBack : ByteArray := prog_5_method_8_code
def yX3_layBack : MethodName := ⟨RX3, "layBack", "()I"⟩
def RX4 : String := "StonesOver$Lane"
def TX4 : u_T := fun k => match k with
  | 0 => ("StonesOver$Lane", "numbers", "[I", true)
  | _ => ("StonesOver$Lane", "spitters", "I", false)
def tyX4 : Nat → FieldType := fun k => match k with
  | 0 => .array .int
  | _ => .int
abbrev wsX40 : List Cond := u_ws RX4 TX4 2
theorem nmX4 : ∀ a, a < 2 → ∀ b, b < 2 → a ≠ b → (TX4 a).2.1 ≠ (TX4 b).2.1 := by decide +kernel
theorem tyX4_ok : ∀ k, k < 2 → parseFieldDescriptor (TX4 k).2.2.1 = some (tyX4 k) := by decide +kernel
abbrev cX4_init : ByteArray := prog_6_method_1_code
def yX4_init : MethodName := ⟨RX4, "<init>", "()V"⟩
abbrev cX4_isWithin : ByteArray := prog_6_method_2_code
def yX4_isWithin : MethodName := ⟨RX4, "isWithin", "(IJ)Z"⟩
abbrev cX4_isSpitter : ByteArray := prog_6_method_3_code
def yX4_isSpitter : MethodName := ⟨RX4, "isSpitter", "(I)Z"⟩
abbrev cX4_size : ByteArray := prog_6_method_4_code
def yX4_size : MethodName := ⟨RX4, "size", "()I"⟩
abbrev cX4_isFull : ByteArray := prog_6_method_5_code
def yX4_isFull : MethodName := ⟨RX4, "isFull", "()Z"⟩
abbrev cX4_welcome : ByteArray := prog_6_method_6_code
def yX4_welcome : MethodName := ⟨RX4, "welcome", "(III)I"⟩
abbrev cX4_cellOf : ByteArray := prog_6_method_7_code
def yX4_cellOf : MethodName := ⟨RX4, "cellOf", "(II)I"⟩
abbrev cX4_numberIn : ByteArray := prog_6_method_8_code
def yX4_numberIn : MethodName := ⟨RX4, "numberIn", "(I)I"⟩
abbrev cX4_write : ByteArray := prog_6_method_9_code
def yX4_write : MethodName := ⟨RX4, "write", "(II)V"⟩
abbrev cX4_told : ByteArray := prog_6_method_10_code
def yX4_told : MethodName := ⟨RX4, "told", "(II)I"⟩
abbrev cX4_isInBarrel : ByteArray := prog_6_method_11_code
def yX4_isInBarrel : MethodName := ⟨RX4, "isInBarrel", "(I)Z"⟩
abbrev cX4_isHit : ByteArray := prog_6_method_12_code
def yX4_isHit : MethodName := ⟨RX4, "isHit", "(I)Z"⟩
abbrev cX4_stopOf : ByteArray := prog_6_method_13_code
def yX4_stopOf : MethodName := ⟨RX4, "stopOf", "(I)I"⟩
abbrev cX4_pointsOf : ByteArray := prog_6_method_14_code
def yX4_pointsOf : MethodName := ⟨RX4, "pointsOf", "(I)I"⟩
def RX5 : String := "StonesOver$Law"
def TX5 : u_T := fun k => match k with
  | 0 => ("StonesOver$Law", "code", "[I", true)
  | 1 => ("StonesOver$Law", "stack", "[I", true)
  | 2 => ("StonesOver$Law", "named", "[I", true)
  | _ => ("StonesOver$Law", "length", "I", false)
def tyX5 : Nat → FieldType := fun k => match k with
  | 0 => .array .int
  | 1 => .array .int
  | 2 => .array .int
  | _ => .int
abbrev wsX50 : List Cond := u_ws RX5 TX5 4
theorem nmX5 : ∀ a, a < 4 → ∀ b, b < 4 → a ≠ b → (TX5 a).2.1 ≠ (TX5 b).2.1 := by decide +kernel
theorem tyX5_ok : ∀ k, k < 4 → parseFieldDescriptor (TX5 k).2.2.1 = some (tyX5 k) := by decide +kernel
abbrev cX5_init : ByteArray := prog_7_method_1_code
def yX5_init : MethodName := ⟨RX5, "<init>", "()V"⟩
abbrev cX5_nameOf : ByteArray := prog_7_method_2_code
def yX5_nameOf : MethodName := ⟨RX5, "nameOf", "(I)I"⟩
abbrev cX5_become : ByteArray := prog_7_method_3_code
def yX5_become : MethodName := ⟨RX5, "become", "([II)V"⟩
abbrev cX5_isTold : ByteArray := prog_7_method_4_code
def yX5_isTold : MethodName := ⟨RX5, "isTold", "()Z"⟩
abbrev cX5_worth : ByteArray := prog_7_method_5_code
def yX5_worth : MethodName := ⟨RX5, "worth", "(IIIIII)I"⟩
abbrev cX5_joined : ByteArray := prog_7_method_6_code
def yX5_joined : MethodName := ⟨RX5, "joined", "(III)I"⟩
def RX6 : String := "StonesOver$Marks"
def TX6 : u_T := fun k => match k with
  | 0 => ("StonesOver$Marks", "lane", "LStonesOver$Lane;", true)
  | 1 => ("StonesOver$Marks", "thought", "LStonesOver$Thought;", true)
  | 2 => ("StonesOver$Marks", "stops", "[I", true)
  | _ => ("StonesOver$Marks", "size", "I", false)
def tyX6 : Nat → FieldType := fun k => match k with
  | 0 => .object "StonesOver$Lane"
  | 1 => .object "StonesOver$Thought"
  | 2 => .array .int
  | _ => .int
abbrev wsX60 : List Cond := u_ws RX6 TX6 4
theorem nmX6 : ∀ a, a < 4 → ∀ b, b < 4 → a ≠ b → (TX6 a).2.1 ≠ (TX6 b).2.1 := by decide +kernel
theorem tyX6_ok : ∀ k, k < 4 → parseFieldDescriptor (TX6 k).2.2.1 = some (tyX6 k) := by decide +kernel
abbrev cX6_init : ByteArray := prog_8_method_1_code
def yX6_init : MethodName := ⟨RX6, "<init>", "(LStonesOver$Lane;LStonesOver$Thought;)V"⟩
abbrev cX6_inSteps : ByteArray := prog_8_method_2_code
def yX6_inSteps : MethodName := ⟨RX6, "inSteps", "(II)I"⟩
abbrev cX6_bitsOfSteppers : ByteArray := prog_8_method_3_code
def yX6_bitsOfSteppers : MethodName := ⟨RX6, "bitsOfSteppers", "(II)I"⟩
abbrev cX6_read : ByteArray := prog_8_method_4_code
def yX6_read : MethodName := ⟨RX6, "read", "(LStonesOver$Shelf;)V"⟩
abbrev cX6_firstUnlike : ByteArray := prog_8_method_5_code
def yX6_firstUnlike : MethodName := ⟨RX6, "firstUnlike", "(III)I"⟩
abbrev cX6_howManyMay : ByteArray := prog_8_method_6_code
def yX6_howManyMay : MethodName := ⟨RX6, "howManyMay", "()I"⟩
abbrev cX6_firstWhoMay : ByteArray := prog_8_method_7_code
def yX6_firstWhoMay : MethodName := ⟨RX6, "firstWhoMay", "()I"⟩
abbrev cX6_leastAhead : ByteArray := prog_8_method_8_code
def yX6_leastAhead : MethodName := ⟨RX6, "leastAhead", "(II)I"⟩
def RX7 : String := "StonesOver$Plans"
def TX7 : u_T := fun k => match k with
  | 0 => ("StonesOver$Plans", "lane", "LStonesOver$Lane;", true)
  | 1 => ("StonesOver$Plans", "thought", "LStonesOver$Thought;", true)
  | 2 => ("StonesOver$Plans", "stones", "[I", true)
  | 3 => ("StonesOver$Plans", "worth", "[I", true)
  | 4 => ("StonesOver$Plans", "most", "[I", true)
  | 5 => ("StonesOver$Plans", "stoneCount", "I", false)
  | 6 => ("StonesOver$Plans", "rule", "I", false)
  | 7 => ("StonesOver$Plans", "above", "J", false)
  | 8 => ("StonesOver$Plans", "below", "J", false)
  | _ => ("StonesOver$Plans", "runFirst", "Z", false)
def tyX7 : Nat → FieldType := fun k => match k with
  | 0 => .object "StonesOver$Lane"
  | 1 => .object "StonesOver$Thought"
  | 2 => .array .int
  | 3 => .array .int
  | 4 => .array .int
  | 5 => .int
  | 6 => .int
  | 7 => .long
  | 8 => .long
  | _ => .boolean
abbrev wsX70 : List Cond := u_ws RX7 TX7 10
theorem nmX7 : ∀ a, a < 10 → ∀ b, b < 10 → a ≠ b → (TX7 a).2.1 ≠ (TX7 b).2.1 := by decide +kernel
theorem tyX7_ok : ∀ k, k < 10 → parseFieldDescriptor (TX7 k).2.2.1 = some (tyX7 k) := by decide +kernel
abbrev cX7_init : ByteArray := prog_9_method_1_code
def yX7_init : MethodName := ⟨RX7, "<init>", "(LStonesOver$Lane;LStonesOver$Thought;)V"⟩
abbrev cX7_weighOrders : ByteArray := prog_9_method_2_code
def yX7_weighOrders : MethodName := ⟨RX7, "weighOrders", "(IIII)V"⟩
abbrev cX7_mostOfOrders : ByteArray := prog_9_method_3_code
def yX7_mostOfOrders : MethodName := ⟨RX7, "mostOfOrders", "()I"⟩
abbrev cX7_stoneInOrder : ByteArray := prog_9_method_4_code
def yX7_stoneInOrder : MethodName := ⟨RX7, "stoneInOrder", "(I)I"⟩
abbrev cX7_leastStone : ByteArray := prog_9_method_5_code
def yX7_leastStone : MethodName := ⟨RX7, "leastStone", "(IIII)I"⟩
abbrev cX7_gatherStones : ByteArray := prog_9_method_6_code
def yX7_gatherStones : MethodName := ⟨RX7, "gatherStones", "(I)V"⟩
abbrev cX7_weighStones : ByteArray := prog_9_method_7_code
def yX7_weighStones : MethodName := ⟨RX7, "weighStones", "(II)V"⟩
abbrev cX7_worthOf : ByteArray := prog_9_method_8_code
def yX7_worthOf : MethodName := ⟨RX7, "worthOf", "(II)I"⟩
abbrev cX7_mostOf : ByteArray := prog_9_method_9_code
def yX7_mostOf : MethodName := ⟨RX7, "mostOf", "(I)I"⟩
abbrev cX7_together : ByteArray := prog_9_method_10_code
def yX7_together : MethodName := ⟨RX7, "together", "(II)I"⟩
abbrev cX7_chances : ByteArray := prog_9_method_11_code
def yX7_chances : MethodName := ⟨RX7, "chances", "(III)I"⟩
abbrev cX7_weighTries : ByteArray := prog_9_method_12_code
def yX7_weighTries : MethodName := ⟨RX7, "weighTries", "(IIII)V"⟩
abbrev cX7_chanceAbove : ByteArray := prog_9_method_13_code
def yX7_chanceAbove : MethodName := ⟨RX7, "chanceAbove", "()J"⟩
abbrev cX7_chanceBelow : ByteArray := prog_9_method_14_code
def yX7_chanceBelow : MethodName := ⟨RX7, "chanceBelow", "()J"⟩
abbrev cX7_firstWithRun : ByteArray := prog_9_method_15_code
def yX7_firstWithRun : MethodName := ⟨RX7, "firstWithRun", "()Z"⟩
abbrev cX7_leastFor : ByteArray := prog_9_method_16_code
def yX7_leastFor : MethodName := ⟨RX7, "leastFor", "(IIII)I"⟩
abbrev cX7_draw : ByteArray := prog_9_method_17_code
def yX7_draw : MethodName := ⟨RX7, "draw", "(IIII)I"⟩
def RX8 : String := "StonesOver$Shelf"
def TX8 : u_T := fun k => match k with
  | 0 => ("StonesOver$Shelf", "elements", "[J", true)
  | 1 => ("StonesOver$Shelf", "holds", "I", false)
  | 2 => ("StonesOver$Shelf", "held", "I", false)
  | 3 => ("StonesOver$Shelf", "sort", "I", false)
  | _ => ("StonesOver$Shelf", "length", "I", false)
def tyX8 : Nat → FieldType := fun k => match k with
  | 0 => .array .long
  | 1 => .int
  | 2 => .int
  | 3 => .int
  | _ => .int
abbrev wsX80 : List Cond := u_ws RX8 TX8 5
theorem nmX8 : ∀ a, a < 5 → ∀ b, b < 5 → a ≠ b → (TX8 a).2.1 ≠ (TX8 b).2.1 := by decide +kernel
theorem tyX8_ok : ∀ k, k < 5 → parseFieldDescriptor (TX8 k).2.2.1 = some (tyX8 k) := by decide +kernel
abbrev cX8_init : ByteArray := prog_10_method_1_code
def yX8_init : MethodName := ⟨RX8, "<init>", "()V"⟩
abbrev cX8_holdNothing : ByteArray := prog_10_method_2_code
def yX8_holdNothing : MethodName := ⟨RX8, "holdNothing", "()V"⟩
abbrev cX8_holdTry : ByteArray := prog_10_method_3_code
def yX8_holdTry : MethodName := ⟨RX8, "holdTry", "(I)V"⟩
abbrev cX8_holdRow : ByteArray := prog_10_method_4_code
def yX8_holdRow : MethodName := ⟨RX8, "holdRow", "(II)V"⟩
abbrev cX8_isEmpty : ByteArray := prog_10_method_5_code
def yX8_isEmpty : MethodName := ⟨RX8, "isEmpty", "()Z"⟩
abbrev cX8_isTry : ByteArray := prog_10_method_6_code
def yX8_isTry : MethodName := ⟨RX8, "isTry", "()Z"⟩
abbrev cX8_heldBody : ByteArray := prog_10_method_7_code
def yX8_heldBody : MethodName := ⟨RX8, "heldBody", "()I"⟩
abbrev cX8_length : ByteArray := prog_10_method_8_code
def yX8_length : MethodName := ⟨RX8, "length", "()I"⟩
abbrev cX8_isLikeRow : ByteArray := prog_10_method_9_code
def yX8_isLikeRow : MethodName := ⟨RX8, "isLikeRow", "(LStonesOver$Shelf;)Z"⟩
abbrev cX8_rowRefusal : ByteArray := prog_10_method_10_code
def yX8_rowRefusal : MethodName := ⟨RX8, "rowRefusal", "(I)I"⟩
abbrev cX8_placeRefusal : ByteArray := prog_10_method_11_code
def yX8_placeRefusal : MethodName := ⟨RX8, "placeRefusal", "(I)I"⟩
abbrev cX8_hasPlaces : ByteArray := prog_10_method_12_code
def yX8_hasPlaces : MethodName := ⟨RX8, "hasPlaces", "(II)Z"⟩
abbrev cX8_write : ByteArray := prog_10_method_13_code
def yX8_write : MethodName := ⟨RX8, "write", "(IJ)V"⟩
abbrev cX8_elementAt : ByteArray := prog_10_method_14_code
def yX8_elementAt : MethodName := ⟨RX8, "elementAt", "(I)J"⟩
abbrev cX8_copyTo : ByteArray := prog_10_method_15_code
def yX8_copyTo : MethodName := ⟨RX8, "copyTo", "(ILStonesOver$Shelf;II)V"⟩
abbrev cX8_lowestBits : ByteArray := prog_10_method_16_code
def yX8_lowestBits : MethodName := ⟨RX8, "lowestBits", "(J)J"⟩
def RX9 : String := "StonesOver$Tape"
def TX9 : u_T := fun k => match k with
  | 0 => ("StonesOver$Tape", "bytes", "[I", true)
  | 1 => ("StonesOver$Tape", "draft", "[I", true)
  | 2 => ("StonesOver$Tape", "size", "I", false)
  | 3 => ("StonesOver$Tape", "at", "I", false)
  | _ => ("StonesOver$Tape", "drafted", "I", false)
def tyX9 : Nat → FieldType := fun k => match k with
  | 0 => .array .int
  | 1 => .array .int
  | 2 => .int
  | 3 => .int
  | _ => .int
abbrev wsX90 : List Cond := u_ws RX9 TX9 5
theorem nmX9 : ∀ a, a < 5 → ∀ b, b < 5 → a ≠ b → (TX9 a).2.1 ≠ (TX9 b).2.1 := by decide +kernel
theorem tyX9_ok : ∀ k, k < 5 → parseFieldDescriptor (TX9 k).2.2.1 = some (tyX9 k) := by decide +kernel
abbrev cX9_init : ByteArray := prog_11_method_1_code
def yX9_init : MethodName := ⟨RX9, "<init>", "()V"⟩
abbrev cX9_append : ByteArray := prog_11_method_2_code
def yX9_append : MethodName := ⟨RX9, "append", "(I)I"⟩
abbrev cX9_isFull : ByteArray := prog_11_method_3_code
def yX9_isFull : MethodName := ⟨RX9, "isFull", "()Z"⟩
abbrev cX9_length : ByteArray := prog_11_method_4_code
def yX9_length : MethodName := ⟨RX9, "length", "()I"⟩
abbrev cX9_clear : ByteArray := prog_11_method_5_code
def yX9_clear : MethodName := ⟨RX9, "clear", "()V"⟩
abbrev cX9_fault : ByteArray := prog_11_method_6_code
def yX9_fault : MethodName := ⟨RX9, "fault", "()I"⟩
abbrev cX9_writeTo : ByteArray := prog_11_method_7_code
def yX9_writeTo : MethodName := ⟨RX9, "writeTo", "(LStonesOver$Law;)V"⟩
abbrev cX9_isText : ByteArray := prog_11_method_8_code
def yX9_isText : MethodName := ⟨RX9, "isText", "()Z"⟩
abbrev cX9_isLine : ByteArray := prog_11_method_9_code
def yX9_isLine : MethodName := ⟨RX9, "isLine", "()Z"⟩
abbrev cX9_isChain : ByteArray := prog_11_method_10_code
def yX9_isChain : MethodName := ⟨RX9, "isChain", "(II)Z"⟩
abbrev cX9_isSignOf : ByteArray := prog_11_method_11_code
def yX9_isSignOf : MethodName := ⟨RX9, "isSignOf", "(II)Z"⟩
abbrev cX9_isOperand : ByteArray := prog_11_method_12_code
def yX9_isOperand : MethodName := ⟨RX9, "isOperand", "(I)Z"⟩
abbrev cX9_isClosed : ByteArray := prog_11_method_13_code
def yX9_isClosed : MethodName := ⟨RX9, "isClosed", "(I)Z"⟩
abbrev cX9_isSigned : ByteArray := prog_11_method_14_code
def yX9_isSigned : MethodName := ⟨RX9, "isSigned", "(II)Z"⟩
abbrev cX9_drawNumber : ByteArray := prog_11_method_15_code
def yX9_drawNumber : MethodName := ⟨RX9, "drawNumber", "()V"⟩
abbrev cX9_isDigit : ByteArray := prog_11_method_16_code
def yX9_isDigit : MethodName := ⟨RX9, "isDigit", "(I)Z"⟩
abbrev cX9_letter : ByteArray := prog_11_method_17_code
def yX9_letter : MethodName := ⟨RX9, "letter", "()I"⟩
abbrev cX9_draw : ByteArray := prog_11_method_18_code
def yX9_draw : MethodName := ⟨RX9, "draw", "(I)V"⟩
def RX10 : String := "StonesOver$Thought"
def TX10 : u_T := fun k => match k with
  | 0 => ("StonesOver$Thought", "lane", "LStonesOver$Lane;", true)
  | 1 => ("StonesOver$Thought", "law", "LStonesOver$Law;", true)
  | 2 => ("StonesOver$Thought", "strength", "I", false)
  | 3 => ("StonesOver$Thought", "stoneSize", "I", false)
  | 4 => ("StonesOver$Thought", "wet", "I", false)
  | 5 => ("StonesOver$Thought", "tired", "I", false)
  | _ => ("StonesOver$Thought", "wind", "I", false)
def tyX10 : Nat → FieldType := fun k => match k with
  | 0 => .object "StonesOver$Lane"
  | 1 => .object "StonesOver$Law"
  | 2 => .int
  | 3 => .int
  | 4 => .int
  | 5 => .int
  | _ => .int
abbrev wsX100 : List Cond := u_ws RX10 TX10 7
theorem nmX10 : ∀ a, a < 7 → ∀ b, b < 7 → a ≠ b → (TX10 a).2.1 ≠ (TX10 b).2.1 := by decide +kernel
theorem tyX10_ok : ∀ k, k < 7 → parseFieldDescriptor (TX10 k).2.2.1 = some (tyX10 k) := by decide +kernel
abbrev cX10_init : ByteArray := prog_12_method_1_code
def yX10_init : MethodName := ⟨RX10, "<init>", "(LStonesOver$Lane;LStonesOver$Law;)V"⟩
abbrev cX10_take : ByteArray := prog_12_method_2_code
def yX10_take : MethodName := ⟨RX10, "take", "(III)V"⟩
abbrev cX10_strengthen : ByteArray := prog_12_method_3_code
def yX10_strengthen : MethodName := ⟨RX10, "strengthen", "(I)V"⟩
abbrev cX10_enlarge : ByteArray := prog_12_method_4_code
def yX10_enlarge : MethodName := ⟨RX10, "enlarge", "(I)V"⟩
abbrev cX10_landing : ByteArray := prog_12_method_5_code
def yX10_landing : MethodName := ⟨RX10, "landing", "(II)I"⟩
abbrev cX10_withoutText : ByteArray := prog_12_method_6_code
def yX10_withoutText : MethodName := ⟨RX10, "withoutText", "(II)I"⟩
abbrev cX10_bestAngleForStop : ByteArray := prog_12_method_7_code
def yX10_bestAngleForStop : MethodName := ⟨RX10, "bestAngleForStop", "()I"⟩
abbrev cX10_bestAngle : ByteArray := prog_12_method_8_code
def yX10_bestAngle : MethodName := ⟨RX10, "bestAngle", "(I)I"⟩
abbrev cX10_bestPoints : ByteArray := prog_12_method_9_code
def yX10_bestPoints : MethodName := ⟨RX10, "bestPoints", "(I)I"⟩
abbrev cX10_bestAngleAndRun : ByteArray := prog_12_method_10_code
def yX10_bestAngleAndRun : MethodName := ⟨RX10, "bestAngleAndRun", "()I"⟩
def RX11 : String := "StonesOver"
def TX11 : u_T := fun k => match k with
  | 0 => ("StonesOver", "lane", "LStonesOver$Lane;", true)
  | 1 => ("StonesOver", "tape", "LStonesOver$Tape;", true)
  | 2 => ("StonesOver", "theLaw", "LStonesOver$Law;", true)
  | 3 => ("StonesOver", "changes", "LStonesOver$Changes;", true)
  | 4 => ("StonesOver", "thought", "LStonesOver$Thought;", true)
  | 5 => ("StonesOver", "plans", "LStonesOver$Plans;", true)
  | 6 => ("StonesOver", "contest", "LStonesOver$Contest;", true)
  | 7 => ("StonesOver", "marks", "LStonesOver$Marks;", true)
  | 8 => ("StonesOver", "deeds", "LStonesOver$Deeds;", true)
  | 9 => ("StonesOver", "acts", "LStonesOver$Acts;", true)
  | _ => ("StonesOver", "shelves", "[LStonesOver$Shelf;", true)
def tyX11 : Nat → FieldType := fun k => match k with
  | 0 => .object "StonesOver$Lane"
  | 1 => .object "StonesOver$Tape"
  | 2 => .object "StonesOver$Law"
  | 3 => .object "StonesOver$Changes"
  | 4 => .object "StonesOver$Thought"
  | 5 => .object "StonesOver$Plans"
  | 6 => .object "StonesOver$Contest"
  | 7 => .object "StonesOver$Marks"
  | 8 => .object "StonesOver$Deeds"
  | 9 => .object "StonesOver$Acts"
  | _ => .array (.object "StonesOver$Shelf")
abbrev wsX110 : List Cond := u_ws RX11 TX11 11
theorem nmX11 : ∀ a, a < 11 → ∀ b, b < 11 → a ≠ b → (TX11 a).2.1 ≠ (TX11 b).2.1 := by decide +kernel
theorem tyX11_ok : ∀ k, k < 11 → parseFieldDescriptor (TX11 k).2.2.1 = some (tyX11 k) := by decide +kernel
abbrev cX11_init : ByteArray := prog_1_method_1_code
def yX11_init : MethodName := ⟨RX11, "<init>", "()V"⟩
abbrev cX11_spitter : ByteArray := prog_1_method_2_code
def yX11_spitter : MethodName := ⟨RX11, "spitter", "(II)I"⟩
abbrev cX11_spitters : ByteArray := prog_1_method_3_code
def yX11_spitters : MethodName := ⟨RX11, "spitters", "(III)I"⟩
abbrev cX11_mend : ByteArray := prog_1_method_4_code
def yX11_mend : MethodName := ⟨RX11, "mend", "(III)I"⟩
abbrev cX11_of : ByteArray := prog_1_method_5_code
def yX11_of : MethodName := ⟨RX11, "of", "(II)I"⟩
abbrev cX11_feed : ByteArray := prog_1_method_6_code
def yX11_feed : MethodName := ⟨RX11, "feed", "(I)I"⟩
abbrev cX11_law : ByteArray := prog_1_method_7_code
def yX11_law : MethodName := ⟨RX11, "law", "()I"⟩
abbrev cX11_tries : ByteArray := prog_1_method_8_code
def yX11_tries : MethodName := ⟨RX11, "tries", "(IIII)I"⟩
abbrev cX11_angle : ByteArray := prog_1_method_9_code
def yX11_angle : MethodName := ⟨RX11, "angle", "(III)I"⟩
abbrev cX11_order : ByteArray := prog_1_method_10_code
def yX11_order : MethodName := ⟨RX11, "order", "(IIII)I"⟩
abbrev cX11_risk : ByteArray := prog_1_method_11_code
def yX11_risk : MethodName := ⟨RX11, "risk", "(IIII)J"⟩
abbrev cX11_risks : ByteArray := prog_1_method_12_code
def yX11_risks : MethodName := ⟨RX11, "risks", "(IIII)J"⟩
abbrev cX11_practice : ByteArray := prog_1_method_13_code
def yX11_practice : MethodName := ⟨RX11, "practice", "(IIII)I"⟩
abbrev cX11_match : ByteArray := prog_1_method_14_code
def yX11_match : MethodName := ⟨RX11, "match", "(III)I"⟩
abbrev cX11_winner : ByteArray := prog_1_method_15_code
def yX11_winner : MethodName := ⟨RX11, "winner", "(II)I"⟩
abbrev cX11_last : ByteArray := prog_1_method_16_code
def yX11_last : MethodName := ⟨RX11, "last", "(III)J"⟩
abbrev cX11_place : ByteArray := prog_1_method_17_code
def yX11_place : MethodName := ⟨RX11, "place", "(III)I"⟩
abbrev cX11_handicap : ByteArray := prog_1_method_18_code
def yX11_handicap : MethodName := ⟨RX11, "handicap", "(III)I"⟩
abbrev cX11_steps : ByteArray := prog_1_method_19_code
def yX11_steps : MethodName := ⟨RX11, "steps", "(II)I"⟩
abbrev cX11_whose : ByteArray := prog_1_method_20_code
def yX11_whose : MethodName := ⟨RX11, "whose", "(II)I"⟩
abbrev cX11_judge : ByteArray := prog_1_method_21_code
def yX11_judge : MethodName := ⟨RX11, "judge", "(II)I"⟩
abbrev cX11_who : ByteArray := prog_1_method_22_code
def yX11_who : MethodName := ⟨RX11, "who", "(II)I"⟩
abbrev cX11_ahead : ByteArray := prog_1_method_23_code
def yX11_ahead : MethodName := ⟨RX11, "ahead", "(II)I"⟩
abbrev cX11_drawn : ByteArray := prog_1_method_24_code
def yX11_drawn : MethodName := ⟨RX11, "drawn", "(IIII)I"⟩
abbrev cX11_spit : ByteArray := prog_1_method_25_code
def yX11_spit : MethodName := ⟨RX11, "spit", "(III)I"⟩
abbrev cX11_rest : ByteArray := prog_1_method_26_code
def yX11_rest : MethodName := ⟨RX11, "rest", "()I"⟩
abbrev cX11_led : ByteArray := prog_1_method_27_code
def yX11_led : MethodName := ⟨RX11, "led", "(II)I"⟩
abbrev cX11_image : ByteArray := prog_1_method_28_code
def yX11_image : MethodName := ⟨RX11, "image", "()I"⟩
abbrev cX11_back : ByteArray := prog_1_method_29_code
def yX11_back : MethodName := ⟨RX11, "back", "()I"⟩
abbrev cX11_undo : ByteArray := prog_1_method_30_code
def yX11_undo : MethodName := ⟨RX11, "undo", "()I"⟩
abbrev cX11_redo : ByteArray := prog_1_method_31_code
def yX11_redo : MethodName := ⟨RX11, "redo", "()I"⟩
abbrev cX11_body : ByteArray := prog_1_method_32_code
def yX11_body : MethodName := ⟨RX11, "body", "(I)I"⟩
abbrev cX11_act : ByteArray := prog_1_method_33_code
def yX11_act : MethodName := ⟨RX11, "act", "(III)I"⟩
abbrev cX11_trace : ByteArray := prog_1_method_34_code
def yX11_trace : MethodName := ⟨RX11, "trace", "(I)I"⟩
abbrev cX11_keep : ByteArray := prog_1_method_35_code
def yX11_keep : MethodName := ⟨RX11, "keep", "(II)I"⟩
abbrev cX11_row : ByteArray := prog_1_method_36_code
def yX11_row : MethodName := ⟨RX11, "row", "(III)I"⟩
abbrev cX11_put : ByteArray := prog_1_method_37_code
def yX11_put : MethodName := ⟨RX11, "put", "(IIJ)I"⟩
abbrev cX11_element : ByteArray := prog_1_method_38_code
def yX11_element : MethodName := ⟨RX11, "element", "(II)J"⟩
abbrev cX11_shift : ByteArray := prog_1_method_39_code
def yX11_shift : MethodName := ⟨RX11, "shift", "(IIIII)I"⟩
abbrev cX11_taken : ByteArray := prog_1_method_40_code
def yX11_taken : MethodName := ⟨RX11, "taken", "(II)I"⟩
abbrev cX11_count : ByteArray := prog_1_method_41_code
def yX11_count : MethodName := ⟨RX11, "count", "(I)I"⟩
abbrev cX11_isStoneAndAhead : ByteArray := prog_1_method_42_code
def yX11_isStoneAndAhead : MethodName := ⟨RX11, "isStoneAndAhead", "(I)Z"⟩
abbrev cX11_isHow : ByteArray := prog_1_method_43_code
def yX11_isHow : MethodName := ⟨RX11, "isHow", "(I)Z"⟩
abbrev cX11_isStonesAndRule : ByteArray := prog_1_method_44_code
def yX11_isStonesAndRule : MethodName := ⟨RX11, "isStonesAndRule", "(I)Z"⟩
abbrev cX11_isSpitterAndAngle : ByteArray := prog_1_method_45_code
def yX11_isSpitterAndAngle : MethodName := ⟨RX11, "isSpitterAndAngle", "(I)Z"⟩
abbrev cX11_shelfAt : ByteArray := prog_1_method_46_code
def yX11_shelfAt : MethodName := ⟨RX11, "shelfAt", "(I)LStonesOver$Shelf;"⟩
abbrev cX11_matchRefusal : ByteArray := prog_1_method_47_code
def yX11_matchRefusal : MethodName := ⟨RX11, "matchRefusal", "(II)I"⟩
abbrev cX11_marksRefusal : ByteArray := prog_1_method_48_code
def yX11_marksRefusal : MethodName := ⟨RX11, "marksRefusal", "(I)I"⟩
abbrev cX11_welcomeThree : ByteArray := prog_1_method_49_code
def yX11_welcomeThree : MethodName := ⟨RX11, "welcomeThree", "(LStonesOver$Shelf;I)Z"⟩
abbrev cX11_fractionPart : ByteArray := prog_1_method_50_code
def yX11_fractionPart : MethodName := ⟨RX11, "fractionPart", "(JJI)J"⟩
abbrev cX11_greatestDivisor : ByteArray := prog_1_method_51_code
def yX11_greatestDivisor : MethodName := ⟨RX11, "greatestDivisor", "(JJ)J"⟩
def RX12 : String := "StonesOverModel"
def TX12 : u_T := fun k => match k with
  | 0 => ("StonesOverModel", "may", "[I", true)
  | 1 => ("StonesOverModel", "changeAt", "[I", true)
  | 2 => ("StonesOverModel", "changeWas", "[I", true)
  | 3 => ("StonesOverModel", "changeIs", "[I", true)
  | 4 => ("StonesOverModel", "keptMany", "I", false)
  | 5 => ("StonesOverModel", "done", "I", false)
  | 6 => ("StonesOverModel", "spitters", "I", false)
  | 7 => ("StonesOverModel", "tape", "[I", true)
  | 8 => ("StonesOverModel", "tapeMany", "I", false)
  | 9 => ("StonesOverModel", "text", "[I", true)
  | 10 => ("StonesOverModel", "textMany", "I", false)
  | 11 => ("StonesOverModel", "base", "I", false)
  | 12 => ("StonesOverModel", "at", "I", false)
  | 13 => ("StonesOverModel", "ends", "I", false)
  | 14 => ("StonesOverModel", "fault", "I", false)
  | 15 => ("StonesOverModel", "opened", "I", false)
  | 16 => ("StonesOverModel", "names", "[I", true)
  | 17 => ("StonesOverModel", "larger", "I", false)
  | 18 => ("StonesOverModel", "memo", "[I", true)
  | 19 => ("StonesOverModel", "isKnown", "[Z", true)
  | 20 => ("StonesOverModel", "path", "[I", true)
  | 21 => ("StonesOverModel", "bestPath", "[I", true)
  | 22 => ("StonesOverModel", "pathMany", "I", false)
  | 23 => ("StonesOverModel", "bestScore", "I", false)
  | 24 => ("StonesOverModel", "firstRun", "I", false)
  | 25 => ("StonesOverModel", "row", "[I", true)
  | 26 => ("StonesOverModel", "rowMany", "I", false)
  | 27 => ("StonesOverModel", "needed", "I", false)
  | 28 => ("StonesOverModel", "lastRuns", "I", false)
  | 29 => ("StonesOverModel", "spat", "[I", true)
  | 30 => ("StonesOverModel", "ledPoints", "[I", true)
  | 31 => ("StonesOverModel", "ledBest", "[I", true)
  | 32 => ("StonesOverModel", "ledTries", "I", false)
  | 33 => ("StonesOverModel", "ledHens", "I", false)
  | 34 => ("StonesOverModel", "ledBarrel", "I", false)
  | 35 => ("StonesOverModel", "isKept", "Z", false)
  | 36 => ("StonesOverModel", "imageSpitters", "I", false)
  | 37 => ("StonesOverModel", "image", "[I", true)
  | 38 => ("StonesOverModel", "bodies", "I", false)
  | 39 => ("StonesOverModel", "bodyKind", "[I", true)
  | 40 => ("StonesOverModel", "trace", "[I", true)
  | 41 => ("StonesOverModel", "ran", "I", false)
  | 42 => ("StonesOverModel", "ownKind", "I", false)
  | 43 => ("StonesOverModel", "ownNumber", "I", false)
  | 44 => ("StonesOverModel", "shelf", "[I", true)
  | 45 => ("StonesOverModel", "many", "[I", true)
  | 46 => ("StonesOverModel", "items", "[J", true)
  | _ => ("StonesOverModel", "carried", "[J", true)
def tyX12 : Nat → FieldType := fun k => match k with
  | 0 => .array .int
  | 1 => .array .int
  | 2 => .array .int
  | 3 => .array .int
  | 4 => .int
  | 5 => .int
  | 6 => .int
  | 7 => .array .int
  | 8 => .int
  | 9 => .array .int
  | 10 => .int
  | 11 => .int
  | 12 => .int
  | 13 => .int
  | 14 => .int
  | 15 => .int
  | 16 => .array .int
  | 17 => .int
  | 18 => .array .int
  | 19 => .array .boolean
  | 20 => .array .int
  | 21 => .array .int
  | 22 => .int
  | 23 => .int
  | 24 => .int
  | 25 => .array .int
  | 26 => .int
  | 27 => .int
  | 28 => .int
  | 29 => .array .int
  | 30 => .array .int
  | 31 => .array .int
  | 32 => .int
  | 33 => .int
  | 34 => .int
  | 35 => .boolean
  | 36 => .int
  | 37 => .array .int
  | 38 => .int
  | 39 => .array .int
  | 40 => .array .int
  | 41 => .int
  | 42 => .int
  | 43 => .int
  | 44 => .array .int
  | 45 => .array .int
  | 46 => .array .long
  | _ => .array .long
abbrev wsX120 : List Cond := u_ws RX12 TX12 48
theorem nmX12 : ∀ a, a < 48 → ∀ b, b < 48 → a ≠ b → (TX12 a).2.1 ≠ (TX12 b).2.1 := by decide +kernel
theorem tyX12_ok : ∀ k, k < 48 → parseFieldDescriptor (TX12 k).2.2.1 = some (tyX12 k) := by decide +kernel
abbrev cX12_within : ByteArray := prog_14_method_1_code
def yX12_within : MethodName := ⟨RX12, "within", "(JJJ)Z"⟩
abbrev cX12_sizeOf : ByteArray := prog_14_method_2_code
def yX12_sizeOf : MethodName := ⟨RX12, "sizeOf", "(I)I"⟩
abbrev cX12_isIn : ByteArray := prog_14_method_3_code
def yX12_isIn : MethodName := ⟨RX12, "isIn", "(II)Z"⟩
abbrev cX12_init : ByteArray := prog_14_method_4_code
def yX12_init : MethodName := ⟨RX12, "<init>", "()V"⟩
abbrev cX12_becomes : ByteArray := prog_14_method_5_code
def yX12_becomes : MethodName := ⟨RX12, "becomes", "(II)I"⟩
abbrev cX12_undo : ByteArray := prog_14_method_6_code
def yX12_undo : MethodName := ⟨RX12, "undo", "()I"⟩
abbrev cX12_redo : ByteArray := prog_14_method_7_code
def yX12_redo : MethodName := ⟨RX12, "redo", "()I"⟩
abbrev cX12_isSpitter : ByteArray := prog_14_method_8_code
def yX12_isSpitter : MethodName := ⟨RX12, "isSpitter", "(J)Z"⟩
abbrev cX12_isStone : ByteArray := prog_14_method_9_code
def yX12_isStone : MethodName := ⟨RX12, "isStone", "(I)Z"⟩
abbrev cX12_ofSpitter : ByteArray := prog_14_method_10_code
def yX12_ofSpitter : MethodName := ⟨RX12, "ofSpitter", "(II)I"⟩
abbrev cX12_isOne : ByteArray := prog_14_method_11_code
def yX12_isOne : MethodName := ⟨RX12, "isOne", "(JJJ)Z"⟩
abbrev cX12_adds : ByteArray := prog_14_method_12_code
def yX12_adds : MethodName := ⟨RX12, "adds", "(III)V"⟩
abbrev cX12_spitter : ByteArray := prog_14_method_13_code
def yX12_spitter : MethodName := ⟨RX12, "spitter", "(II)I"⟩
abbrev cX12_spitters : ByteArray := prog_14_method_14_code
def yX12_spitters : MethodName := ⟨RX12, "spitters", "(III)I"⟩
abbrev cX12_placeOf : ByteArray := prog_14_method_15_code
def yX12_placeOf : MethodName := ⟨RX12, "placeOf", "(II)I"⟩
abbrev cX12_mayBecome : ByteArray := prog_14_method_16_code
def yX12_mayBecome : MethodName := ⟨RX12, "mayBecome", "(II)Z"⟩
abbrev cX12_mend : ByteArray := prog_14_method_17_code
def yX12_mend : MethodName := ⟨RX12, "mend", "(III)I"⟩
abbrev cX12_of : ByteArray := prog_14_method_18_code
def yX12_of : MethodName := ⟨RX12, "of", "(II)I"⟩
abbrev cX12_feed : ByteArray := prog_14_method_19_code
def yX12_feed : MethodName := ⟨RX12, "feed", "(I)I"⟩
abbrev cX12_byteAt : ByteArray := prog_14_method_20_code
def yX12_byteAt : MethodName := ⟨RX12, "byteAt", "()I"⟩
abbrev cX12_wrong : ByteArray := prog_14_method_21_code
def yX12_wrong : MethodName := ⟨RX12, "wrong", "()I"⟩
abbrev cX12_takes : ByteArray := prog_14_method_22_code
def yX12_takes : MethodName := ⟨RX12, "takes", "(I)Z"⟩
abbrev cX12_either : ByteArray := prog_14_method_23_code
def yX12_either : MethodName := ⟨RX12, "either", "()I"⟩
abbrev cX12_both : ByteArray := prog_14_method_24_code
def yX12_both : MethodName := ⟨RX12, "both", "()I"⟩
abbrev cX12_compared : ByteArray := prog_14_method_25_code
def yX12_compared : MethodName := ⟨RX12, "compared", "()I"⟩
abbrev cX12_sums : ByteArray := prog_14_method_26_code
def yX12_sums : MethodName := ⟨RX12, "sums", "()I"⟩
abbrev cX12_product : ByteArray := prog_14_method_27_code
def yX12_product : MethodName := ⟨RX12, "product", "()I"⟩
abbrev cX12_nameOf : ByteArray := prog_14_method_28_code
def yX12_nameOf : MethodName := ⟨RX12, "nameOf", "(I)I"⟩
abbrev cX12_one : ByteArray := prog_14_method_29_code
def yX12_one : MethodName := ⟨RX12, "one", "()I"⟩
abbrev cX12_workOut : ByteArray := prog_14_method_30_code
def yX12_workOut : MethodName := ⟨RX12, "workOut", "(II)I"⟩
abbrev cX12_law : ByteArray := prog_14_method_31_code
def yX12_law : MethodName := ⟨RX12, "law", "()I"⟩
abbrev cX12_remembered : ByteArray := prog_14_method_32_code
def yX12_remembered : MethodName := ⟨RX12, "remembered", "()I"⟩
abbrev cX12_landsAt : ByteArray := prog_14_method_33_code
def yX12_landsAt : MethodName := ⟨RX12, "landsAt", "(IIIII)I"⟩
abbrev cX12_inBarrel : ByteArray := prog_14_method_34_code
def yX12_inBarrel : MethodName := ⟨RX12, "inBarrel", "(I)Z"⟩
abbrev cX12_stopsFrom : ByteArray := prog_14_method_35_code
def yX12_stopsFrom : MethodName := ⟨RX12, "stopsFrom", "(I)I"⟩
abbrev cX12_pointsFrom : ByteArray := prog_14_method_36_code
def yX12_pointsFrom : MethodName := ⟨RX12, "pointsFrom", "(I)I"⟩
abbrev cX12_pointsAt : ByteArray := prog_14_method_37_code
def yX12_pointsAt : MethodName := ⟨RX12, "pointsAt", "(IIIII)I"⟩
abbrev cX12_isHow : ByteArray := prog_14_method_38_code
def yX12_isHow : MethodName := ⟨RX12, "isHow", "(I)Z"⟩
abbrev cX12_isSk : ByteArray := prog_14_method_39_code
def yX12_isSk : MethodName := ⟨RX12, "isSk", "(I)Z"⟩
abbrev cX12_tries : ByteArray := prog_14_method_40_code
def yX12_tries : MethodName := ⟨RX12, "tries", "(IIII)I"⟩
abbrev cX12_angleFor : ByteArray := prog_14_method_41_code
def yX12_angleFor : MethodName := ⟨RX12, "angleFor", "(IIII)I"⟩
abbrev cX12_pointsBest : ByteArray := prog_14_method_42_code
def yX12_pointsBest : MethodName := ⟨RX12, "pointsBest", "(IIII)I"⟩
abbrev cX12_angle : ByteArray := prog_14_method_43_code
def yX12_angle : MethodName := ⟨RX12, "angle", "(III)I"⟩
abbrev cX12_ordersOn : ByteArray := prog_14_method_44_code
def yX12_ordersOn : MethodName := ⟨RX12, "ordersOn", "(IIIIII)V"⟩
abbrev cX12_order : ByteArray := prog_14_method_45_code
def yX12_order : MethodName := ⟨RX12, "order", "(IIII)I"⟩
abbrev cX12_commonOf : ByteArray := prog_14_method_46_code
def yX12_commonOf : MethodName := ⟨RX12, "commonOf", "(JJ)J"⟩
abbrev cX12_partOf : ByteArray := prog_14_method_47_code
def yX12_partOf : MethodName := ⟨RX12, "partOf", "(JJI)J"⟩
abbrev cX12_beats : ByteArray := prog_14_method_48_code
def yX12_beats : MethodName := ⟨RX12, "beats", "(IIIII)I"⟩
abbrev cX12_risk : ByteArray := prog_14_method_49_code
def yX12_risk : MethodName := ⟨RX12, "risk", "(IIII)J"⟩
abbrev cX12_risks : ByteArray := prog_14_method_50_code
def yX12_risks : MethodName := ⟨RX12, "risks", "(IIII)J"⟩
abbrev cX12_practice : ByteArray := prog_14_method_51_code
def yX12_practice : MethodName := ⟨RX12, "practice", "(IIII)I"⟩
abbrev cX12_rowIs : ByteArray := prog_14_method_52_code
def yX12_rowIs : MethodName := ⟨RX12, "rowIs", "(II)I"⟩
abbrev cX12_itemAt : ByteArray := prog_14_method_53_code
def yX12_itemAt : MethodName := ⟨RX12, "itemAt", "(II)J"⟩
abbrev cX12_takesRow : ByteArray := prog_14_method_54_code
def yX12_takesRow : MethodName := ⟨RX12, "takesRow", "(I)V"⟩
abbrev cX12_isNr : ByteArray := prog_14_method_55_code
def yX12_isNr : MethodName := ⟨RX12, "isNr", "(I)Z"⟩
abbrev cX12_scoreOf : ByteArray := prog_14_method_56_code
def yX12_scoreOf : MethodName := ⟨RX12, "scoreOf", "(II)I"⟩
abbrev cX12_match : ByteArray := prog_14_method_57_code
def yX12_match : MethodName := ⟨RX12, "match", "(III)I"⟩
abbrev cX12_winnerOf : ByteArray := prog_14_method_58_code
def yX12_winnerOf : MethodName := ⟨RX12, "winnerOf", "(I)I"⟩
abbrev cX12_winner : ByteArray := prog_14_method_59_code
def yX12_winner : MethodName := ⟨RX12, "winner", "(II)I"⟩
abbrev cX12_lastOn : ByteArray := prog_14_method_60_code
def yX12_lastOn : MethodName := ⟨RX12, "lastOn", "(IIII)J"⟩
abbrev cX12_last : ByteArray := prog_14_method_61_code
def yX12_last : MethodName := ⟨RX12, "last", "(III)J"⟩
abbrev cX12_placeIn : ByteArray := prog_14_method_62_code
def yX12_placeIn : MethodName := ⟨RX12, "placeIn", "(I)I"⟩
abbrev cX12_place : ByteArray := prog_14_method_63_code
def yX12_place : MethodName := ⟨RX12, "place", "(III)I"⟩
abbrev cX12_handicap : ByteArray := prog_14_method_64_code
def yX12_handicap : MethodName := ⟨RX12, "handicap", "(III)I"⟩
abbrev cX12_winsWith : ByteArray := prog_14_method_65_code
def yX12_winsWith : MethodName := ⟨RX12, "winsWith", "(III)Z"⟩
abbrev cX12_steps : ByteArray := prog_14_method_66_code
def yX12_steps : MethodName := ⟨RX12, "steps", "(II)I"⟩
abbrev cX12_whose : ByteArray := prog_14_method_67_code
def yX12_whose : MethodName := ⟨RX12, "whose", "(II)I"⟩
abbrev cX12_firstFalse : ByteArray := prog_14_method_68_code
def yX12_firstFalse : MethodName := ⟨RX12, "firstFalse", "(IIII)I"⟩
abbrev cX12_isSa : ByteArray := prog_14_method_69_code
def yX12_isSa : MethodName := ⟨RX12, "isSa", "(I)Z"⟩
abbrev cX12_judge : ByteArray := prog_14_method_70_code
def yX12_judge : MethodName := ⟨RX12, "judge", "(II)I"⟩
abbrev cX12_who : ByteArray := prog_14_method_71_code
def yX12_who : MethodName := ⟨RX12, "who", "(II)I"⟩
abbrev cX12_ahead : ByteArray := prog_14_method_72_code
def yX12_ahead : MethodName := ⟨RX12, "ahead", "(II)I"⟩
abbrev cX12_drawn : ByteArray := prog_14_method_73_code
def yX12_drawn : MethodName := ⟨RX12, "drawn", "(IIII)I"⟩
abbrev cX12_spit : ByteArray := prog_14_method_74_code
def yX12_spit : MethodName := ⟨RX12, "spit", "(III)I"⟩
abbrev cX12_rest : ByteArray := prog_14_method_75_code
def yX12_rest : MethodName := ⟨RX12, "rest", "()I"⟩
abbrev cX12_led : ByteArray := prog_14_method_76_code
def yX12_led : MethodName := ⟨RX12, "led", "(II)I"⟩
abbrev cX12_image : ByteArray := prog_14_method_77_code
def yX12_image : MethodName := ⟨RX12, "image", "()I"⟩
abbrev cX12_back : ByteArray := prog_14_method_78_code
def yX12_back : MethodName := ⟨RX12, "back", "()I"⟩
abbrev cX12_isBody : ByteArray := prog_14_method_79_code
def yX12_isBody : MethodName := ⟨RX12, "isBody", "(I)Z"⟩
abbrev cX12_kindOf : ByteArray := prog_14_method_80_code
def yX12_kindOf : MethodName := ⟨RX12, "kindOf", "(I)I"⟩
abbrev cX12_body : ByteArray := prog_14_method_81_code
def yX12_body : MethodName := ⟨RX12, "body", "(I)I"⟩
abbrev cX12_above : ByteArray := prog_14_method_82_code
def yX12_above : MethodName := ⟨RX12, "above", "(I)I"⟩
abbrev cX12_begins : ByteArray := prog_14_method_83_code
def yX12_begins : MethodName := ⟨RX12, "begins", "(I)V"⟩
abbrev cX12_spitsAs : ByteArray := prog_14_method_84_code
def yX12_spitsAs : MethodName := ⟨RX12, "spitsAs", "(II)I"⟩
abbrev cX12_landsAs : ByteArray := prog_14_method_85_code
def yX12_landsAs : MethodName := ⟨RX12, "landsAs", "(II)I"⟩
abbrev cX12_rollsAs : ByteArray := prog_14_method_86_code
def yX12_rollsAs : MethodName := ⟨RX12, "rollsAs", "(II)I"⟩
abbrev cX12_tellsAs : ByteArray := prog_14_method_87_code
def yX12_tellsAs : MethodName := ⟨RX12, "tellsAs", "(II)I"⟩
abbrev cX12_act : ByteArray := prog_14_method_88_code
def yX12_act : MethodName := ⟨RX12, "act", "(III)I"⟩
abbrev cX12_trace : ByteArray := prog_14_method_89_code
def yX12_trace : MethodName := ⟨RX12, "trace", "(I)I"⟩
abbrev cX12_isShelf : ByteArray := prog_14_method_90_code
def yX12_isShelf : MethodName := ⟨RX12, "isShelf", "(I)Z"⟩
abbrev cX12_keep : ByteArray := prog_14_method_91_code
def yX12_keep : MethodName := ⟨RX12, "keep", "(II)I"⟩
abbrev cX12_row : ByteArray := prog_14_method_92_code
def yX12_row : MethodName := ⟨RX12, "row", "(III)I"⟩
abbrev cX12_refusal : ByteArray := prog_14_method_93_code
def yX12_refusal : MethodName := ⟨RX12, "refusal", "(II)I"⟩
abbrev cX12_asSort : ByteArray := prog_14_method_94_code
def yX12_asSort : MethodName := ⟨RX12, "asSort", "(IJ)J"⟩
abbrev cX12_put : ByteArray := prog_14_method_95_code
def yX12_put : MethodName := ⟨RX12, "put", "(IIJ)I"⟩
abbrev cX12_element : ByteArray := prog_14_method_96_code
def yX12_element : MethodName := ⟨RX12, "element", "(II)J"⟩
abbrev cX12_shift : ByteArray := prog_14_method_97_code
def yX12_shift : MethodName := ⟨RX12, "shift", "(IIIII)I"⟩
abbrev cX12_taken : ByteArray := prog_14_method_98_code
def yX12_taken : MethodName := ⟨RX12, "taken", "(II)I"⟩
abbrev cX12_count : ByteArray := prog_14_method_99_code
def yX12_count : MethodName := ⟨RX12, "count", "(I)I"⟩
def RJ6 : String := "java/lang/Integer"
abbrev cJ6_bitCount_0f7a4 : ByteArray := prog_15_method_49_code
def yJ6_bitCount_0f7a4 : MethodName := ⟨RJ6, "bitCount", "(I)I"⟩
def RJ9 : String := "java/lang/Math"
abbrev cJ9_abs_0f7a4 : ByteArray := prog_16_method_59_code
def yJ9_abs_0f7a4 : MethodName := ⟨RJ9, "abs", "(I)I"⟩
abbrev cJ9_max_7cf53 : ByteArray := prog_16_method_65_code
def yJ9_max_7cf53 : MethodName := ⟨RJ9, "max", "(II)I"⟩
abbrev cJ9_min_7cf53 : ByteArray := prog_16_method_69_code
def yJ9_min_7cf53 : MethodName := ⟨RJ9, "min", "(II)I"⟩
abbrev cJ9_min_f86c9 : ByteArray := prog_16_method_70_code
def yJ9_min_f86c9 : MethodName := ⟨RJ9, "min", "(JJ)J"⟩
def RJ10 : String := "java/lang/System"
def RL : String := "StonesOverLaw"
abbrev vwCl : List vw_C := [(RX0, TX0, 5), (RX1, TX1, 5), (RX2, TX2, 13), (RX3, TX3, 3), (RX4, TX4, 2), (RX5, TX5, 4), (RX6, TX6, 4), (RX7, TX7, 10), (RX8, TX8, 5), (RX9, TX9, 5), (RX10, TX10, 7), (RX11, TX11, 11), (RX12, TX12, 48)]
end
section
/-! the tables of the pure machine, by program out of the printed names and words: classes, fields, methods, call sites, constants; each row with the place of its word among the tables -/
def mm_R : Nat → String := fun k => match k with
  | 0 => RX0
  | 1 => RX1
  | 2 => RX2
  | 3 => RX3
  | 4 => RX4
  | 5 => RX5
  | 6 => RX6
  | 7 => RX7
  | 8 => RX8
  | 9 => RX9
  | 10 => RX10
  | 11 => RX11
  | 12 => RX12
  | 13 => RJ6
  | 14 => RJ9
  | _ => "StonesOverLaw"
def mm_T : Nat → u_T := fun k => match k with
  | 0 => TX0
  | 1 => TX1
  | 2 => TX2
  | 3 => TX3
  | 4 => TX4
  | 5 => TX5
  | 6 => TX6
  | 7 => TX7
  | 8 => TX8
  | 9 => TX9
  | 10 => TX10
  | 11 => TX11
  | _ => TX12
def mm_ty : Nat → Nat → FieldType := fun k => match k with
  | 0 => tyX0
  | 1 => tyX1
  | 2 => tyX2
  | 3 => tyX3
  | 4 => tyX4
  | 5 => tyX5
  | 6 => tyX6
  | 7 => tyX7
  | 8 => tyX8
  | 9 => tyX9
  | 10 => tyX10
  | 11 => tyX11
  | _ => tyX12
def mm_n : Nat → Nat := fun k => match k with
  | 0 => 5
  | 1 => 5
  | 2 => 13
  | 3 => 3
  | 4 => 2
  | 5 => 4
  | 6 => 4
  | 7 => 10
  | 8 => 5
  | 9 => 5
  | 10 => 7
  | 11 => 11
  | _ => 48
def mm_fldL : List (Nat × (Nat × Nat) × (Nat × Nat)) := [(108, (4, 13), (4, 0)), (109, (4, 22), (4, 1)), (122, (5, 9), (5, 0)), (123, (5, 13), (5, 1)), (124, (5, 16), (5, 2)), (125, (5, 25), (5, 3)), (141, (10, 9), (10, 0)), (142, (10, 15), (10, 1)), (143, (10, 25), (10, 2)), (144, (10, 29), (10, 3)), (145, (10, 32), (10, 4)), (146, (10, 35), (10, 5)), (147, (10, 38), (10, 6)), (170, (8, 11), (8, 0)), (171, (8, 15), (8, 1)), (172, (8, 22), (8, 2)), (173, (8, 25), (8, 3)), (174, (8, 19), (8, 4)), (193, (9, 9), (9, 0)), (194, (9, 15), (9, 1)), (195, (9, 18), (9, 2)), (196, (9, 22), (9, 3)), (197, (9, 25), (9, 4)), (215, (1, 11), (1, 0)), (216, (1, 15), (1, 1)), (217, (1, 18), (1, 2)), (218, (1, 21), (1, 3)), (219, (1, 28), (1, 4)), (237, (7, 21), (7, 0)), (238, (7, 25), (7, 1)), (239, (7, 11), (7, 2)), (240, (7, 15), (7, 3)), (241, (7, 18), (7, 4)), (242, (7, 41), (7, 5)), (243, (7, 29), (7, 6)), (244, (7, 101), (7, 7)), (245, (7, 83), (7, 8)), (246, (7, 93), (7, 9)), (274, (2, 26), (2, 0)), (275, (2, 30), (2, 1)), (276, (2, 11), (2, 2)), (277, (2, 17), (2, 3)), (278, (2, 20), (2, 4)), (279, (2, 23), (2, 5)), (280, (2, 34), (2, 6)), (281, (2, 38), (2, 7)), (282, (2, 41), (2, 8)), (283, (2, 73), (2, 9)), (284, (2, 84), (2, 10)), (285, (2, 98), (2, 11)), (286, (2, 106), (2, 12)), (320, (6, 17), (6, 0)), (321, (6, 21), (6, 1)), (322, (6, 11), (6, 2)), (323, (6, 46), (6, 3)), (339, (3, 17), (3, 0)), (340, (3, 13), (3, 1)), (341, (3, 35), (3, 2)), (355, (0, 11), (0, 0)), (356, (0, 15), (0, 1)), (357, (0, 25), (0, 2)), (358, (0, 32), (0, 3)), (359, (0, 35), (0, 4)), (371, (11, 21), (11, 0)), (372, (11, 30), (11, 1)), (373, (11, 34), (11, 2)), (374, (11, 41), (11, 3)), (375, (11, 45), (11, 4)), (376, (11, 54), (11, 5)), (377, (11, 61), (11, 6)), (378, (11, 68), (11, 7)), (379, (11, 75), (11, 8)), (380, (11, 82), (11, 9)), (381, (11, 86), (11, 10)), (1193, (12, 11), (12, 0)), (1194, (12, 15), (12, 1)), (1195, (12, 18), (12, 2)), (1196, (12, 21), (12, 3)), (1197, (12, 88), (12, 4)), (1198, (12, 85), (12, 5)), (1199, (12, 91), (12, 6)), (1200, (12, 24), (12, 7)), (1201, (12, 152), (12, 8)), (1202, (12, 27), (12, 9)), (1203, (12, 81), (12, 10)), (1204, (12, 161), (12, 11)), (1205, (12, 155), (12, 12)), (1206, (12, 158), (12, 13)), (1207, (12, 164), (12, 14)), (1208, (12, 189), (12, 15)), (1209, (12, 30), (12, 16)), (1210, (12, 208), (12, 17)), (1211, (12, 34), (12, 18)), (1212, (12, 37), (12, 19)), (1213, (12, 41), (12, 20)), (1214, (12, 44), (12, 21)), (1215, (12, 245), (12, 22)), (1216, (12, 248), (12, 23)), (1217, (12, 276), (12, 24)), (1218, (12, 47), (12, 25)), (1219, (12, 279), (12, 26)), (1220, (12, 302), (12, 27)), (1221, (12, 305), (12, 28)), (1222, (12, 50), (12, 29)), (1223, (12, 53), (12, 30)), (1224, (12, 56), (12, 31)), (1225, (12, 328), (12, 32)), (1226, (12, 331), (12, 33)), (1227, (12, 334), (12, 34)), (1228, (12, 337), (12, 35)), (1229, (12, 341), (12, 36)), (1230, (12, 59), (12, 37)), (1231, (12, 344), (12, 38)), (1232, (12, 62), (12, 39)), (1233, (12, 65), (12, 40)), (1234, (12, 347), (12, 41)), (1235, (12, 362), (12, 42)), (1236, (12, 356), (12, 43)), (1237, (12, 68), (12, 44)), (1238, (12, 71), (12, 45)), (1239, (12, 74), (12, 46)), (1240, (12, 78), (12, 47))]
def mm_staL : List (Nat × (Nat × Nat) × Nat × String × String × String) := [(106, (4, 9), 1, "StonesOver$Lane", "AT_FIRST", "[I"), (412, (4, 16), 2, "StonesOver$Lane", "LEAST", "[I"), (414, (4, 19), 3, "StonesOver$Lane", "MOST", "[I"), (841, (2, 117), 4, "StonesOver$Contest", "TWELVES", "[J"), (1061, (0, 64), 5, "StonesOver$Acts", "OWN_BODY", "[I"), (1063, (0, 22), 6, "StonesOver$Acts", "KIND_ABOVE", "[I")]
def mm_claL : List (Nat × (Nat × Nat) × Nat) := [(92, (15, 7), 11), (100, (11, 7), 4), (116, (11, 10), 5), (135, (11, 13), 10), (163, (11, 18), 8), (187, (11, 27), 9), (209, (11, 38), 1), (231, (11, 49), 7), (268, (11, 58), 2), (314, (11, 65), 6), (333, (11, 72), 3), (349, (11, 79), 0), (1186, (15, 10), 12)]
def mm_conL : List (Nat × (Nat × Nat) × Int) := [(461, (11, 122), -2000000000), (657, (13, 265), 1431655765), (658, (13, 266), 858993459), (659, (13, 267), 252645135), (947, (7, 111), 1103515245), (1192, (12, 33), 57344), (1401, (12, 149), -2000000000), (1635, (12, 327), 1103515245)]
def mm_lonL : List (Nat × (Nat × Nat) × Int) := [(707, (11, 200), -9223372036854775808), (713, (11, 205), 12), (729, (7, 91), 12), (826, (11, 243), -2), (833, (2, 96), -1), (843, (2, 112), 12), (1354, (12, 100), 9), (1369, (12, 121), 5), (1370, (12, 113), 6), (1379, (12, 115), 4), (1387, (12, 98), 8), (1388, (12, 126), 7), (1389, (12, 128), 12), (1393, (12, 130), 20), (1394, (12, 132), -9), (1395, (12, 134), 999), (1396, (12, 136), -1), (1410, (12, 150), 255), (1468, (12, 236), 2), (1512, (12, 261), 99), (1528, (12, 267), -9223372036854775808), (1582, (12, 312), -2), (1734, (15, 160), 4294967295)]
def mm_calL : List (Nat × (Nat × Nat) × Nat × Nat × Nat) := [(94, (15, 9), 2, 138, 0), (97, (11, 1), 4, 0, 0), (102, (11, 9), 2, 49, 0), (105, (4, 3), 4, 0, 0), (118, (11, 12), 3, 63, 0), (121, (5, 1), 4, 0, 0), (137, (11, 15), 2, 128, 2), (140, (10, 3), 4, 0, 0), (166, (11, 20), 3, 94, 0), (169, (8, 3), 4, 0, 0), (189, (11, 29), 3, 110, 0), (192, (9, 1), 4, 0, 0), (211, (11, 40), 3, 18, 0), (214, (1, 3), 4, 0, 0), (233, (11, 51), 2, 77, 2), (236, (7, 3), 4, 0, 0), (270, (11, 60), 2, 24, 2), (273, (2, 3), 4, 0, 0), (316, (11, 67), 2, 69, 2), (319, (6, 3), 4, 0, 0), (335, (11, 74), 2, 41, 0), (338, (3, 7), 4, 0, 0), (351, (11, 81), 3, 0, 0), (354, (0, 3), 4, 0, 0), (405, (15, 13), 0, 139, 2), (409, (11, 90), 1, 50, 2), (416, (11, 94), 0, 53, 0), (420, (11, 98), 0, 54, 3), (424, (4, 26), 0, 57, 2), (428, (15, 18), 0, 140, 3), (432, (11, 102), 0, 183, 1), (436, (11, 106), 0, 103, 1), (440, (11, 110), 0, 105, 2), (444, (11, 114), 0, 186, 2), (448, (11, 351), 0, 107, 1), (452, (8, 37), 0, 105, 2), (453, (15, 23), 0, 141, 3), (457, (11, 118), 0, 55, 2), (462, (11, 123), 0, 56, 1), (466, (11, 126), 0, 19, 3), (470, (1, 25), 0, 23, 0), (474, (1, 37), 5, 0, 0), (477, (11, 130), 0, 57, 2), (478, (15, 27), 0, 142, 2), (482, (15, 31), 0, 143, 1), (486, (11, 134), 0, 112, 0), (490, (11, 135), 0, 111, 1), (494, (15, 36), 0, 144, 0), (498, (11, 138), 0, 117, 0), (502, (9, 32), 0, 118, 0), (506, (9, 40), 0, 119, 2), (510, (9, 48), 0, 121, 1), (514, (9, 36), 0, 126, 0), (518, (9, 55), 1, 125, 1), (521, (9, 58), 0, 124, 0), (525, (9, 44), 0, 127, 1), (529, (9, 61), 1, 64, 1), (532, (9, 65), 0, 122, 1), (536, (9, 68), 0, 123, 2), (540, (9, 52), 1, 120, 2), (543, (11, 141), 0, 115, 0), (547, (11, 145), 0, 116, 1), (551, (9, 28), 0, 65, 2), (555, (5, 19), 5, 0, 0), (556, (11, 149), 0, 114, 0), (560, (15, 41), 0, 145, 4), (564, (11, 152), 0, 51, 1), (568, (11, 156), 1, 179, 1), (571, (11, 159), 1, 180, 1), (574, (11, 162), 0, 129, 3), (578, (10, 21), 0, 58, 2), (582, (4, 30), 0, 55, 2), (583, (11, 165), 0, 132, 2), (587, (10, 46), 0, 66, 0), (591, (10, 52), 0, 67, 6), (595, (5, 29), 6, 0, 0), (598, (5, 35), 1, 68, 3), (601, (10, 56), 0, 133, 2), (605, (10, 62), 7, 0, 0), (608, (10, 41), 8, 0, 0), (611, (10, 59), 6, 0, 0), (612, (11, 168), 0, 61, 1), (616, (4, 34), 0, 59, 1), (620, (4, 38), 8, 0, 0), (621, (11, 171), 0, 62, 1), (625, (4, 43), 0, 60, 1), (629, (4, 46), 0, 61, 1), (630, (15, 46), 0, 146, 3), (634, (11, 174), 0, 134, 0), (638, (10, 66), 0, 132, 2), (639, (10, 69), 0, 61, 1), (640, (11, 177), 0, 135, 1), (644, (10, 72), 0, 62, 1), (645, (11, 180), 0, 137, 0), (649, (10, 75), 0, 135, 1), (650, (15, 50), 0, 147, 4), (654, (11, 183), 1, 288, 1), (660, (11, 188), 0, 78, 4), (664, (7, 33), 0, 82, 1), (668, (7, 37), 0, 83, 2), (672, (7, 71), 0, 129, 3), (673, (7, 77), 0, 136, 1), (677, (7, 44), 1, 288, 1), (678, (7, 50), 0, 84, 2), (682, (7, 54), 0, 85, 1), (686, (7, 57), 0, 86, 2), (690, (7, 60), 6, 0, 0), (691, (11, 192), 0, 79, 0), (695, (11, 195), 0, 80, 1), (699, (7, 65), 0, 81, 4), (703, (15, 54), 0, 148, 4), (708, (11, 202), 0, 87, 3), (712, (7, 80), 0, 58, 2), (714, (11, 207), 1, 187, 3), (717, (11, 400), 1, 188, 2), (720, (15, 59), 0, 149, 4), (724, (11, 211), 0, 88, 4), (728, (7, 87), 0, 87, 3), (730, (7, 97), 9, 0, 0), (733, (11, 214), 0, 91, 0), (737, (11, 217), 0, 89, 0), (741, (11, 221), 0, 90, 0), (745, (15, 63), 0, 150, 4), (749, (11, 224), 0, 92, 4), (753, (7, 104), 1, 50, 2), (754, (7, 108), 0, 130, 1), (758, (15, 67), 0, 151, 3), (762, (11, 228), 0, 184, 2), (766, (11, 389), 1, 181, 1), (769, (11, 392), 0, 25, 3), (773, (2, 44), 0, 101, 0), (777, (2, 50), 0, 107, 1), (778, (2, 54), 0, 52, 0), (782, (2, 56), 0, 38, 1), (786, (2, 60), 0, 39, 2), (790, (2, 87), 0, 129, 3), (791, (2, 121), 0, 131, 1), (795, (2, 93), 0, 136, 1), (796, (2, 114), 0, 40, 2), (800, (2, 76), 6, 0, 0), (801, (11, 231), 0, 27, 1), (805, (15, 71), 0, 152, 2), (809, (11, 234), 0, 29, 0), (813, (2, 64), 0, 27, 1), (814, (11, 237), 0, 28, 1), (818, (15, 75), 0, 153, 3), (822, (11, 240), 0, 26, 0), (827, (11, 245), 0, 32, 0), (831, (2, 70), 0, 28, 1), (832, (2, 81), 0, 58, 2), (834, (2, 102), 0, 36, 3), (838, (2, 109), 1, 37, 1), (844, (11, 248), 0, 35, 0), (848, (11, 251), 0, 33, 0), (852, (11, 252), 0, 34, 0), (856, (15, 80), 0, 154, 3), (860, (11, 253), 0, 30, 1), (864, (15, 84), 0, 155, 3), (868, (11, 256), 0, 31, 1), (872, (2, 67), 0, 29, 0), (873, (15, 88), 0, 156, 2), (877, (11, 259), 0, 70, 2), (881, (6, 27), 0, 58, 2), (882, (15, 92), 0, 157, 2), (886, (11, 262), 0, 71, 2), (890, (6, 31), 0, 52, 0), (891, (6, 35), 0, 70, 2), (892, (15, 96), 0, 158, 2), (896, (11, 265), 0, 182, 1), (900, (11, 268), 0, 185, 1), (904, (11, 396), 0, 72, 1), (908, (6, 38), 0, 101, 0), (909, (6, 41), 8, 0, 0), (910, (6, 49), 0, 107, 1), (911, (11, 271), 0, 73, 3), (915, (6, 53), 0, 129, 3), (916, (6, 59), 0, 132, 2), (917, (6, 62), 0, 61, 1), (918, (15, 100), 0, 159, 2), (922, (11, 274), 0, 74, 0), (926, (6, 66), 0, 73, 3), (927, (11, 277), 0, 75, 0), (931, (15, 104), 0, 160, 2), (935, (11, 280), 0, 76, 2), (939, (15, 108), 0, 161, 4), (943, (11, 283), 0, 93, 4), (948, (15, 112), 0, 162, 3), (952, (11, 286), 0, 42, 1), (956, (3, 20), 0, 45, 2), (960, (11, 289), 0, 60, 1), (961, (11, 292), 0, 59, 1), (962, (11, 295), 0, 43, 4), (966, (3, 24), 6, 0, 0), (967, (15, 116), 0, 163, 0), (971, (11, 298), 0, 44, 0), (975, (15, 120), 0, 164, 2), (979, (11, 301), 0, 46, 1), (983, (11, 304), 0, 45, 2), (984, (15, 124), 0, 165, 0), (988, (11, 307), 0, 47, 0), (992, (3, 29), 5, 0, 0), (993, (15, 128), 0, 166, 0), (997, (11, 310), 0, 48, 0), (1001, (15, 132), 0, 167, 0), (1005, (11, 313), 0, 21, 1), (1009, (1, 31), 0, 57, 2), (1010, (15, 136), 0, 168, 0), (1014, (11, 317), 0, 22, 1), (1018, (15, 140), 0, 169, 1), (1022, (11, 320), 1, 1, 1), (1025, (11, 323), 0, 4, 0), (1029, (11, 324), 0, 6, 1), (1033, (15, 144), 0, 170, 3), (1037, (11, 326), 0, 8, 3), (1041, (0, 29), 0, 3, 1), (1045, (0, 38), 0, 11, 3), (1049, (0, 42), 0, 7, 1), (1053, (0, 46), 0, 13, 4), (1057, (0, 50), 1, 14, 2), (1060, (0, 18), 1, 1, 1), (1065, (0, 54), 0, 15, 1), (1069, (0, 58), 0, 16, 3), (1073, (0, 67), 0, 12, 4), (1077, (0, 61), 0, 17, 3), (1081, (15, 148), 0, 171, 1), (1085, (11, 329), 0, 9, 1), (1089, (15, 152), 0, 172, 2), (1093, (11, 332), 0, 3, 1), (1094, (11, 335), 0, 95, 0), (1098, (11, 338), 0, 96, 1), (1102, (15, 156), 0, 173, 3), (1106, (11, 342), 0, 97, 2), (1110, (8, 28), 8, 0, 0), (1111, (8, 34), 6, 0, 0), (1112, (15, 162), 0, 174, 3), (1116, (11, 345), 0, 104, 1), (1120, (11, 348), 0, 106, 2), (1124, (8, 41), 0, 109, 1), (1128, (15, 167), 0, 175, 2), (1132, (15, 172), 0, 176, 5), (1136, (11, 355), 0, 98, 0), (1140, (11, 358), 0, 102, 1), (1144, (11, 362), 0, 108, 4), (1148, (8, 45), 5, 0, 0), (1149, (15, 177), 0, 177, 2), (1153, (11, 366), 0, 99, 0), (1157, (11, 369), 0, 100, 0), (1161, (11, 372), 0, 7, 1), (1162, (11, 375), 1, 2, 2), (1165, (15, 181), 0, 178, 1), (1169, (11, 378), 0, 52, 0), (1170, (11, 379), 0, 113, 0), (1174, (11, 382), 0, 20, 0), (1178, (11, 385), 0, 5, 0), (1182, (11, 386), 0, 10, 0), (1188, (15, 12), 2, 192, 0), (1191, (12, 5), 4, 0, 0), (1339, (15, 135), 0, 194, 0), (1343, (15, 139), 0, 195, 0), (1347, (15, 17), 0, 201, 2), (1351, (12, 102), 1, 199, 3), (1355, (12, 94), 1, 189, 3), (1358, (12, 105), 0, 200, 3), (1362, (15, 22), 0, 202, 3), (1366, (12, 109), 1, 278, 1), (1371, (15, 26), 0, 205, 3), (1375, (12, 138), 0, 203, 2), (1380, (12, 117), 0, 196, 1), (1384, (12, 123), 1, 197, 1), (1390, (12, 142), 1, 204, 2), (1397, (12, 146), 0, 193, 2), (1402, (15, 30), 0, 206, 2), (1406, (15, 35), 0, 207, 1), (1411, (15, 40), 0, 219, 0), (1415, (12, 202), 0, 218, 2), (1419, (12, 195), 0, 211, 0), (1423, (12, 171), 0, 212, 0), (1427, (12, 177), 0, 213, 0), (1431, (12, 180), 0, 214, 0), (1435, (12, 183), 0, 215, 0), (1439, (12, 186), 0, 217, 0), (1443, (12, 167), 0, 208, 0), (1447, (12, 192), 0, 209, 0), (1451, (12, 174), 0, 210, 1), (1455, (12, 198), 1, 216, 1), (1458, (15, 45), 0, 228, 4), (1462, (12, 230), 1, 227, 1), (1465, (12, 233), 1, 226, 1), (1469, (12, 223), 0, 221, 5), (1473, (12, 205), 0, 198, 2), (1477, (12, 211), 1, 190, 1), (1480, (12, 214), 0, 220, 0), (1484, (12, 220), 0, 223, 1), (1488, (12, 217), 0, 222, 1), (1492, (12, 227), 0, 224, 1), (1496, (15, 49), 0, 231, 3), (1500, (12, 241), 0, 229, 4), (1504, (12, 238), 0, 225, 5), (1508, (15, 53), 0, 233, 4), (1513, (12, 251), 1, 191, 2), (1516, (12, 257), 0, 232, 6), (1520, (12, 254), 0, 230, 4), (1524, (15, 58), 0, 237, 4), (1529, (12, 269), 0, 236, 5), (1533, (12, 272), 1, 235, 3), (1536, (12, 263), 1, 234, 2), (1539, (15, 62), 0, 238, 4), (1543, (15, 66), 0, 239, 4), (1547, (15, 70), 0, 245, 3), (1551, (12, 286), 0, 240, 2), (1555, (12, 289), 1, 243, 1), (1558, (12, 292), 0, 242, 1), (1562, (12, 282), 0, 241, 2), (1566, (12, 296), 0, 244, 2), (1570, (15, 74), 0, 247, 2), (1574, (12, 299), 0, 246, 1), (1578, (15, 79), 0, 249, 3), (1583, (12, 308), 0, 248, 4), (1587, (15, 83), 0, 251, 3), (1591, (12, 314), 0, 250, 1), (1595, (15, 87), 0, 252, 3), (1599, (12, 317), 0, 253, 3), (1603, (15, 91), 0, 254, 2), (1607, (15, 95), 0, 255, 2), (1611, (15, 99), 0, 258, 2), (1615, (12, 321), 0, 257, 1), (1619, (12, 324), 0, 256, 4), (1623, (15, 103), 0, 259, 2), (1627, (15, 107), 0, 260, 2), (1631, (15, 111), 0, 261, 4), (1636, (15, 115), 0, 262, 3), (1640, (15, 119), 0, 263, 0), (1644, (15, 123), 0, 264, 2), (1648, (15, 127), 0, 265, 0), (1652, (15, 131), 0, 266, 0), (1656, (15, 143), 0, 269, 1), (1660, (15, 147), 0, 276, 3), (1664, (12, 371), 0, 267, 1), (1668, (12, 353), 0, 272, 2), (1672, (12, 350), 0, 271, 1), (1676, (12, 359), 0, 273, 2), (1680, (12, 365), 0, 274, 2), (1684, (12, 368), 0, 275, 2), (1688, (15, 151), 0, 277, 1), (1692, (15, 155), 0, 279, 2), (1696, (15, 159), 0, 280, 3), (1700, (15, 166), 0, 283, 3), (1704, (12, 374), 0, 281, 2), (1708, (12, 377), 1, 282, 2), (1711, (15, 171), 0, 284, 2), (1715, (15, 176), 0, 285, 5), (1719, (15, 180), 0, 286, 2), (1723, (12, 381), 0, 268, 1), (1727, (12, 384), 1, 270, 1), (1730, (15, 184), 0, 287, 1)]
def mm_meL0 : List (Nat × MethodName × ByteArray × Nat × Option FieldType × Nat × Nat × Nat × Nat × Nat) := [(0, yX0_init, cX0_init, 1, none, 0, 353, 352, 0, 87), (0, yX0_isKind, cX0_isKind, 1, (some .boolean), 1, 1024, 1023, 0, 87), (0, yX0_isUnder, cX0_isUnder, 4, (some .boolean), 1, 1164, 1163, 0, 87), (0, yX0_isBody, cX0_isBody, 2, (some .boolean), 0, 1044, 1042, 1043, 87), (0, yX0_isFull, cX0_isFull, 1, (some .boolean), 0, 1028, 1026, 1027, 87), (0, yX0_size, cX0_size, 1, (some .int), 0, 1181, 1179, 1180, 87), (0, yX0_store, cX0_store, 3, (some .int), 0, 1032, 1030, 1031, 87), (0, yX0_kindOf, cX0_kindOf, 2, (some .int), 0, 1052, 1050, 1051, 87), (0, yX0_perform, cX0_perform, 4, (some .int), 0, 1040, 1038, 1039, 87), (0, yX0_tracedAt, cX0_tracedAt, 2, (some .int), 0, 1088, 1086, 1087, 87), (0, yX0_howManyRan, cX0_howManyRan, 1, (some .int), 0, 1185, 1183, 1184, 87), (0, yX0_own, cX0_own, 4, (some .int), 0, 1048, 1047, 25, 87), (0, yX0_above, cX0_above, 5, (some .int), 0, 1076, 1075, 29, 87), (0, yX0_from, cX0_from, 6, (some .int), 0, 1056, 1055, 26, 87), (0, yX0_bodyFrom, cX0_bodyFrom, 5, (some .int), 1, 1059, 1058, 0, 87)]
def mm_meL1 : List (Nat × MethodName × ByteArray × Nat × Option FieldType × Nat × Nat × Nat × Nat × Nat) := [(0, yX0_begin, cX0_begin, 2, none, 0, 1068, 1067, 27, 87), (0, yX0_flying, cX0_flying, 4, (some .int), 0, 1072, 1071, 28, 87), (0, yX0_ending, cX0_ending, 4, (some .int), 0, 1080, 1079, 30, 87), (1, yX1_init, cX1_init, 1, none, 0, 213, 212, 0, 82), (1, yX1_note, cX1_note, 4, none, 0, 469, 467, 468, 82), (1, yX1_undoable, cX1_undoable, 1, (some .int), 0, 1177, 1175, 1176, 82), (1, yX1_stepBack, cX1_stepBack, 2, (some .int), 0, 1008, 1006, 1007, 82), (1, yX1_stepOn, cX1_stepOn, 2, (some .int), 0, 1017, 1015, 1016, 82), (1, yX1_forgetOldest, cX1_forgetOldest, 1, none, 0, 473, 472, 2, 82), (2, yX2_init, cX2_init, 3, none, 0, 272, 271, 0, 84), (2, yX2_gather, cX2_gather, 7, none, 0, 772, 770, 771, 84), (2, yX2_size, cX2_size, 1, (some .int), 0, 825, 823, 824, 84), (2, yX2_scoreAt, cX2_scoreAt, 2, (some .int), 0, 804, 802, 803, 84), (2, yX2_spitterAt, cX2_spitterAt, 2, (some .int), 0, 817, 815, 816, 84), (2, yX2_firstPlace, cX2_firstPlace, 4, (some .int), 0, 812, 810, 811, 84)]
def mm_meL2 : List (Nat × MethodName × ByteArray × Nat × Option FieldType × Nat × Nat × Nat × Nat × Nat) := [(2, yX2_greatestWinningPlace, cX2_greatestWinningPlace, 6, (some .int), 0, 863, 861, 862, 84), (2, yX2_leastHandicap, cX2_leastHandicap, 4, (some .int), 0, 871, 869, 870, 84), (2, yX2_weighLast, cX2_weighLast, 5, none, 0, 830, 828, 829, 84), (2, yX2_chanceAbove, cX2_chanceAbove, 1, (some .long), 0, 851, 849, 850, 84), (2, yX2_chanceBelow, cX2_chanceBelow, 1, (some .long), 0, 855, 853, 854, 84), (2, yX2_runBits, cX2_runBits, 1, (some .int), 0, 847, 845, 846, 84), (2, yX2_chancesFrom, cX2_chancesFrom, 6, (some .long), 0, 837, 836, 22, 84), (2, yX2_twelveTo, cX2_twelveTo, 1, (some .long), 1, 840, 839, 0, 84), (2, yX2_placeOf, cX2_placeOf, 3, (some .int), 0, 785, 784, 19, 84), (2, yX2_scoreOf, cX2_scoreOf, 5, (some .int), 0, 789, 788, 20, 84), (2, yX2_together, cX2_together, 3, (some .int), 0, 799, 798, 21, 84), (3, yX3_init, cX3_init, 3, none, 0, 337, 336, 0, 86), (3, yX3_sinceRest, cX3_sinceRest, 2, (some .int), 0, 955, 953, 954, 86), (3, yX3_note, cX3_note, 6, none, 0, 965, 963, 964, 86), (3, yX3_beginAnew, cX3_beginAnew, 3, (some .int), 0, 974, 972, 973, 86)]
def mm_meL3 : List (Nat × MethodName × ByteArray × Nat × Option FieldType × Nat × Nat × Nat × Nat × Nat) := [(3, yX3_ofOne, cX3_ofOne, 4, (some .int), 0, 959, 957, 958, 86), (3, yX3_ofAll, cX3_ofAll, 2, (some .int), 0, 982, 980, 981, 86), (3, yX3_store, cX3_store, 1, (some .int), 0, 991, 989, 990, 86), (3, yX3_layBack, cX3_layBack, 1, (some .int), 0, 1000, 998, 999, 86), (4, yX4_init, cX4_init, 4, none, 0, 104, 103, 0, 77), (4, yX4_isWithin, cX4_isWithin, 3, (some .boolean), 1, 411, 410, 0, 77), (4, yX4_isSpitter, cX4_isSpitter, 2, (some .boolean), 0, 567, 565, 566, 77), (4, yX4_size, cX4_size, 1, (some .int), 0, 781, 779, 780, 77), (4, yX4_isFull, cX4_isFull, 1, (some .boolean), 0, 419, 417, 418, 77), (4, yX4_welcome, cX4_welcome, 5, (some .int), 0, 423, 421, 422, 77), (4, yX4_cellOf, cX4_cellOf, 3, (some .int), 0, 460, 458, 459, 77), (4, yX4_numberIn, cX4_numberIn, 2, (some .int), 0, 465, 463, 464, 77), (4, yX4_write, cX4_write, 3, none, 0, 427, 425, 426, 77), (4, yX4_told, cX4_told, 4, (some .int), 0, 581, 579, 580, 77), (4, yX4_isInBarrel, cX4_isInBarrel, 4, (some .boolean), 0, 619, 617, 618, 77)]
def mm_meL4 : List (Nat × MethodName × ByteArray × Nat × Option FieldType × Nat × Nat × Nat × Nat × Nat) := [(4, yX4_isHit, cX4_isHit, 2, (some .boolean), 0, 628, 626, 627, 77), (4, yX4_stopOf, cX4_stopOf, 3, (some .int), 0, 615, 613, 614, 77), (4, yX4_pointsOf, cX4_pointsOf, 3, (some .int), 0, 624, 622, 623, 77), (5, yX5_init, cX5_init, 1, none, 0, 120, 119, 0, 78), (5, yX5_nameOf, cX5_nameOf, 1, (some .int), 1, 531, 530, 0, 78), (5, yX5_become, cX5_become, 3, none, 0, 554, 552, 553, 78), (5, yX5_isTold, cX5_isTold, 1, (some .boolean), 0, 590, 588, 589, 78), (5, yX5_worth, cX5_worth, 11, (some .int), 0, 594, 592, 593, 78), (5, yX5_joined, cX5_joined, 3, (some .int), 1, 600, 599, 0, 78), (6, yX6_init, cX6_init, 3, none, 0, 318, 317, 0, 85), (6, yX6_inSteps, cX6_inSteps, 4, (some .int), 0, 880, 878, 879, 85), (6, yX6_bitsOfSteppers, cX6_bitsOfSteppers, 5, (some .int), 0, 889, 887, 888, 85), (6, yX6_read, cX6_read, 3, none, 0, 907, 905, 906, 85), (6, yX6_firstUnlike, cX6_firstUnlike, 5, (some .int), 0, 914, 912, 913, 85), (6, yX6_howManyMay, cX6_howManyMay, 4, (some .int), 0, 925, 923, 924, 85)]
def mm_meL5 : List (Nat × MethodName × ByteArray × Nat × Option FieldType × Nat × Nat × Nat × Nat × Nat) := [(6, yX6_firstWhoMay, cX6_firstWhoMay, 3, (some .int), 0, 930, 928, 929, 85), (6, yX6_leastAhead, cX6_leastAhead, 4, (some .int), 0, 938, 936, 937, 85), (7, yX7_init, cX7_init, 3, none, 0, 235, 234, 0, 83), (7, yX7_weighOrders, cX7_weighOrders, 9, none, 0, 663, 661, 662, 83), (7, yX7_mostOfOrders, cX7_mostOfOrders, 1, (some .int), 0, 694, 692, 693, 83), (7, yX7_stoneInOrder, cX7_stoneInOrder, 7, (some .int), 0, 698, 696, 697, 83), (7, yX7_leastStone, cX7_leastStone, 7, (some .int), 0, 702, 701, 17, 83), (7, yX7_gatherStones, cX7_gatherStones, 3, none, 0, 667, 666, 12, 83), (7, yX7_weighStones, cX7_weighStones, 5, none, 0, 671, 670, 13, 83), (7, yX7_worthOf, cX7_worthOf, 4, (some .int), 0, 681, 680, 14, 83), (7, yX7_mostOf, cX7_mostOf, 2, (some .int), 0, 685, 684, 15, 83), (7, yX7_together, cX7_together, 3, (some .int), 0, 689, 688, 16, 83), (7, yX7_chances, cX7_chances, 4, (some .int), 0, 711, 709, 710, 83), (7, yX7_weighTries, cX7_weighTries, 11, none, 0, 727, 725, 726, 83), (7, yX7_chanceAbove, cX7_chanceAbove, 1, (some .long), 0, 740, 738, 739, 83)]
def mm_meL6 : List (Nat × MethodName × ByteArray × Nat × Option FieldType × Nat × Nat × Nat × Nat × Nat) := [(7, yX7_chanceBelow, cX7_chanceBelow, 1, (some .long), 0, 744, 742, 743, 83), (7, yX7_firstWithRun, cX7_firstWithRun, 1, (some .boolean), 0, 736, 734, 735, 83), (7, yX7_leastFor, cX7_leastFor, 7, (some .int), 0, 752, 750, 751, 83), (7, yX7_draw, cX7_draw, 14, (some .int), 0, 946, 944, 945, 83), (8, yX8_init, cX8_init, 1, none, 0, 168, 167, 0, 80), (8, yX8_holdNothing, cX8_holdNothing, 1, none, 0, 1097, 1095, 1096, 80), (8, yX8_holdTry, cX8_holdTry, 2, none, 0, 1101, 1099, 1100, 80), (8, yX8_holdRow, cX8_holdRow, 4, none, 0, 1109, 1107, 1108, 80), (8, yX8_isEmpty, cX8_isEmpty, 1, (some .boolean), 0, 1139, 1137, 1138, 80), (8, yX8_isTry, cX8_isTry, 1, (some .boolean), 0, 1156, 1154, 1155, 80), (8, yX8_heldBody, cX8_heldBody, 1, (some .int), 0, 1160, 1158, 1159, 80), (8, yX8_length, cX8_length, 1, (some .int), 0, 776, 774, 775, 80), (8, yX8_isLikeRow, cX8_isLikeRow, 2, (some .boolean), 0, 1143, 1141, 1142, 80), (8, yX8_rowRefusal, cX8_rowRefusal, 2, (some .int), 0, 439, 437, 438, 80), (8, yX8_placeRefusal, cX8_placeRefusal, 2, (some .int), 0, 1119, 1117, 1118, 80)]
def mm_meL7 : List (Nat × MethodName × ByteArray × Nat × Option FieldType × Nat × Nat × Nat × Nat × Nat) := [(8, yX8_hasPlaces, cX8_hasPlaces, 3, (some .boolean), 0, 443, 441, 442, 80), (8, yX8_write, cX8_write, 4, none, 0, 1123, 1121, 1122, 80), (8, yX8_elementAt, cX8_elementAt, 2, (some .long), 0, 451, 449, 450, 80), (8, yX8_copyTo, cX8_copyTo, 5, none, 0, 1147, 1145, 1146, 80), (8, yX8_lowestBits, cX8_lowestBits, 3, (some .long), 0, 1127, 1126, 31, 80), (9, yX9_init, cX9_init, 1, none, 0, 191, 190, 0, 81), (9, yX9_append, cX9_append, 2, (some .int), 0, 493, 491, 492, 81), (9, yX9_isFull, cX9_isFull, 1, (some .boolean), 0, 489, 487, 488, 81), (9, yX9_length, cX9_length, 1, (some .int), 0, 1173, 1171, 1172, 81), (9, yX9_clear, cX9_clear, 1, none, 0, 559, 557, 558, 81), (9, yX9_fault, cX9_fault, 1, (some .int), 0, 546, 544, 545, 81), (9, yX9_writeTo, cX9_writeTo, 2, none, 0, 550, 548, 549, 81), (9, yX9_isText, cX9_isText, 2, (some .boolean), 0, 501, 499, 500, 81), (9, yX9_isLine, cX9_isLine, 2, (some .boolean), 0, 505, 504, 3, 81), (9, yX9_isChain, cX9_isChain, 6, (some .boolean), 0, 509, 508, 4, 81)]
def mm_meL8 : List (Nat × MethodName × ByteArray × Nat × Option FieldType × Nat × Nat × Nat × Nat × Nat) := [(9, yX9_isSignOf, cX9_isSignOf, 2, (some .boolean), 1, 542, 541, 0, 81), (9, yX9_isOperand, cX9_isOperand, 4, (some .boolean), 0, 513, 512, 5, 81), (9, yX9_isClosed, cX9_isClosed, 2, (some .boolean), 0, 535, 534, 9, 81), (9, yX9_isSigned, cX9_isSigned, 3, (some .boolean), 0, 539, 538, 10, 81), (9, yX9_drawNumber, cX9_drawNumber, 3, none, 0, 524, 523, 7, 81), (9, yX9_isDigit, cX9_isDigit, 1, (some .boolean), 1, 520, 519, 0, 81), (9, yX9_letter, cX9_letter, 1, (some .int), 0, 517, 516, 6, 81), (9, yX9_draw, cX9_draw, 2, none, 0, 528, 527, 8, 81), (10, yX10_init, cX10_init, 3, none, 0, 139, 138, 0, 79), (10, yX10_take, cX10_take, 4, none, 0, 577, 575, 576, 79), (10, yX10_strengthen, cX10_strengthen, 2, none, 0, 757, 755, 756, 79), (10, yX10_enlarge, cX10_enlarge, 2, none, 0, 794, 792, 793, 79), (10, yX10_landing, cX10_landing, 5, (some .int), 0, 586, 584, 585, 79), (10, yX10_withoutText, cX10_withoutText, 3, (some .int), 0, 604, 603, 11, 79), (10, yX10_bestAngleForStop, cX10_bestAngleForStop, 5, (some .int), 0, 637, 635, 636, 79)]
def mm_meL9 : List (Nat × MethodName × ByteArray × Nat × Option FieldType × Nat × Nat × Nat × Nat × Nat) := [(10, yX10_bestAngle, cX10_bestAngle, 6, (some .int), 0, 643, 641, 642, 79), (10, yX10_bestPoints, cX10_bestPoints, 4, (some .int), 0, 676, 674, 675, 79), (10, yX10_bestAngleAndRun, cX10_bestAngleAndRun, 5, (some .int), 0, 648, 646, 647, 79), (11, yX11_init, cX11_init, 6, none, 0, 96, 95, 0, 76), (11, yX11_spitter, cX11_spitter, 3, (some .int), 0, 408, 406, 407, 76), (11, yX11_spitters, cX11_spitters, 7, (some .int), 0, 431, 429, 430, 76), (11, yX11_mend, cX11_mend, 6, (some .int), 0, 456, 454, 455, 76), (11, yX11_of, cX11_of, 4, (some .int), 0, 481, 479, 480, 76), (11, yX11_feed, cX11_feed, 2, (some .int), 0, 485, 483, 484, 76), (11, yX11_law, cX11_law, 3, (some .int), 0, 497, 495, 496, 76), (11, yX11_tries, cX11_tries, 6, (some .int), 0, 563, 561, 562, 76), (11, yX11_angle, cX11_angle, 4, (some .int), 0, 633, 631, 632, 76), (11, yX11_order, cX11_order, 7, (some .int), 0, 653, 651, 652, 76), (11, yX11_risk, cX11_risk, 7, (some .long), 0, 706, 704, 705, 76), (11, yX11_risks, cX11_risks, 5, (some .long), 0, 723, 721, 722, 76)]
def mm_meL10 : List (Nat × MethodName × ByteArray × Nat × Option FieldType × Nat × Nat × Nat × Nat × Nat) := [(11, yX11_practice, cX11_practice, 5, (some .int), 0, 748, 746, 747, 76), (11, yX11_match, cX11_match, 5, (some .int), 0, 761, 759, 760, 76), (11, yX11_winner, cX11_winner, 4, (some .int), 0, 808, 806, 807, 76), (11, yX11_last, cX11_last, 4, (some .long), 0, 821, 819, 820, 76), (11, yX11_place, cX11_place, 5, (some .int), 0, 859, 857, 858, 76), (11, yX11_handicap, cX11_handicap, 5, (some .int), 0, 867, 865, 866, 76), (11, yX11_steps, cX11_steps, 3, (some .int), 0, 876, 874, 875, 76), (11, yX11_whose, cX11_whose, 3, (some .int), 0, 885, 883, 884, 76), (11, yX11_judge, cX11_judge, 4, (some .int), 0, 895, 893, 894, 76), (11, yX11_who, cX11_who, 4, (some .int), 0, 921, 919, 920, 76), (11, yX11_ahead, cX11_ahead, 4, (some .int), 0, 934, 932, 933, 76), (11, yX11_drawn, cX11_drawn, 5, (some .int), 0, 942, 940, 941, 76), (11, yX11_spit, cX11_spit, 6, (some .int), 0, 951, 949, 950, 76), (11, yX11_rest, cX11_rest, 1, (some .int), 0, 970, 968, 969, 76), (11, yX11_led, cX11_led, 3, (some .int), 0, 978, 976, 977, 76)]
def mm_meL11 : List (Nat × MethodName × ByteArray × Nat × Option FieldType × Nat × Nat × Nat × Nat × Nat) := [(11, yX11_image, cX11_image, 1, (some .int), 0, 987, 985, 986, 76), (11, yX11_back, cX11_back, 1, (some .int), 0, 996, 994, 995, 76), (11, yX11_undo, cX11_undo, 1, (some .int), 0, 1004, 1002, 1003, 76), (11, yX11_redo, cX11_redo, 1, (some .int), 0, 1013, 1011, 1012, 76), (11, yX11_body, cX11_body, 2, (some .int), 0, 1021, 1019, 1020, 76), (11, yX11_act, cX11_act, 4, (some .int), 0, 1036, 1034, 1035, 76), (11, yX11_trace, cX11_trace, 2, (some .int), 0, 1084, 1082, 1083, 76), (11, yX11_keep, cX11_keep, 4, (some .int), 0, 1092, 1090, 1091, 76), (11, yX11_row, cX11_row, 5, (some .int), 0, 1105, 1103, 1104, 76), (11, yX11_put, cX11_put, 7, (some .int), 0, 1115, 1113, 1114, 76), (11, yX11_element, cX11_element, 4, (some .long), 0, 1131, 1129, 1130, 76), (11, yX11_shift, cX11_shift, 8, (some .int), 0, 1135, 1133, 1134, 76), (11, yX11_taken, cX11_taken, 5, (some .int), 0, 1152, 1150, 1151, 76), (11, yX11_count, cX11_count, 2, (some .int), 0, 1168, 1166, 1167, 76), (11, yX11_isStoneAndAhead, cX11_isStoneAndAhead, 1, (some .boolean), 1, 570, 569, 0, 76)]
def mm_meL12 : List (Nat × MethodName × ByteArray × Nat × Option FieldType × Nat × Nat × Nat × Nat × Nat) := [(11, yX11_isHow, cX11_isHow, 1, (some .boolean), 1, 573, 572, 0, 76), (11, yX11_isStonesAndRule, cX11_isStonesAndRule, 1, (some .boolean), 1, 768, 767, 0, 76), (11, yX11_isSpitterAndAngle, cX11_isSpitterAndAngle, 2, (some .boolean), 0, 899, 898, 23, 76), (11, yX11_shelfAt, cX11_shelfAt, 2, (some (.object "StonesOver$Shelf")), 0, 435, 434, 0, 76), (11, yX11_matchRefusal, cX11_matchRefusal, 5, (some .int), 0, 765, 764, 18, 76), (11, yX11_marksRefusal, cX11_marksRefusal, 4, (some .int), 0, 903, 902, 24, 76), (11, yX11_welcomeThree, cX11_welcomeThree, 9, (some .boolean), 0, 447, 446, 1, 76), (11, yX11_fractionPart, cX11_fractionPart, 7, (some .long), 1, 716, 715, 0, 76), (11, yX11_greatestDivisor, cX11_greatestDivisor, 11, (some .long), 1, 719, 718, 0, 76), (12, yX12_within, cX12_within, 6, (some .boolean), 1, 1357, 1356, 0, 88), (12, yX12_sizeOf, cX12_sizeOf, 1, (some .int), 1, 1479, 1478, 0, 88), (12, yX12_isIn, cX12_isIn, 2, (some .boolean), 1, 1515, 1514, 0, 88), (12, yX12_init, cX12_init, 2, none, 0, 1190, 1189, 0, 88), (12, yX12_becomes, cX12_becomes, 5, (some .int), 0, 1400, 1399, 35, 88), (12, yX12_undo, cX12_undo, 1, (some .int), 0, 1342, 1340, 1341, 88)]
def mm_meL13 : List (Nat × MethodName × ByteArray × Nat × Option FieldType × Nat × Nat × Nat × Nat × Nat) := [(12, yX12_redo, cX12_redo, 1, (some .int), 0, 1346, 1344, 1345, 88), (12, yX12_isSpitter, cX12_isSpitter, 3, (some .boolean), 0, 1383, 1382, 34, 88), (12, yX12_isStone, cX12_isStone, 1, (some .boolean), 1, 1386, 1385, 0, 88), (12, yX12_ofSpitter, cX12_ofSpitter, 3, (some .int), 0, 1476, 1475, 47, 88), (12, yX12_isOne, cX12_isOne, 6, (some .boolean), 1, 1353, 1352, 0, 88), (12, yX12_adds, cX12_adds, 4, none, 0, 1361, 1360, 32, 88), (12, yX12_spitter, cX12_spitter, 3, (some .int), 0, 1350, 1348, 1349, 88), (12, yX12_spitters, cX12_spitters, 7, (some .int), 0, 1365, 1363, 1364, 88), (12, yX12_placeOf, cX12_placeOf, 3, (some .int), 0, 1378, 1377, 33, 88), (12, yX12_mayBecome, cX12_mayBecome, 2, (some .boolean), 1, 1392, 1391, 0, 88), (12, yX12_mend, cX12_mend, 5, (some .int), 0, 1374, 1372, 1373, 88), (12, yX12_of, cX12_of, 4, (some .int), 0, 1405, 1403, 1404, 88), (12, yX12_feed, cX12_feed, 2, (some .int), 0, 1409, 1407, 1408, 88), (12, yX12_byteAt, cX12_byteAt, 1, (some .int), 0, 1446, 1445, 43, 88), (12, yX12_wrong, cX12_wrong, 1, (some .int), 0, 1450, 1449, 44, 88)]
def mm_meL14 : List (Nat × MethodName × ByteArray × Nat × Option FieldType × Nat × Nat × Nat × Nat × Nat) := [(12, yX12_takes, cX12_takes, 2, (some .boolean), 0, 1454, 1453, 45, 88), (12, yX12_either, cX12_either, 3, (some .int), 0, 1422, 1421, 37, 88), (12, yX12_both, cX12_both, 3, (some .int), 0, 1426, 1425, 38, 88), (12, yX12_compared, cX12_compared, 4, (some .int), 0, 1430, 1429, 39, 88), (12, yX12_sums, cX12_sums, 4, (some .int), 0, 1434, 1433, 40, 88), (12, yX12_product, cX12_product, 4, (some .int), 0, 1438, 1437, 41, 88), (12, yX12_nameOf, cX12_nameOf, 1, (some .int), 1, 1457, 1456, 0, 88), (12, yX12_one, cX12_one, 5, (some .int), 0, 1442, 1441, 42, 88), (12, yX12_workOut, cX12_workOut, 8, (some .int), 0, 1418, 1417, 36, 88), (12, yX12_law, cX12_law, 4, (some .int), 0, 1414, 1412, 1413, 88), (12, yX12_remembered, cX12_remembered, 4, (some .int), 0, 1483, 1482, 48, 88), (12, yX12_landsAt, cX12_landsAt, 10, (some .int), 0, 1472, 1471, 46, 88), (12, yX12_inBarrel, cX12_inBarrel, 2, (some .boolean), 0, 1491, 1490, 50, 88), (12, yX12_stopsFrom, cX12_stopsFrom, 3, (some .int), 0, 1487, 1486, 49, 88), (12, yX12_pointsFrom, cX12_pointsFrom, 2, (some .int), 0, 1495, 1494, 51, 88)]
def mm_meL15 : List (Nat × MethodName × ByteArray × Nat × Option FieldType × Nat × Nat × Nat × Nat × Nat) := [(12, yX12_pointsAt, cX12_pointsAt, 6, (some .int), 0, 1507, 1506, 53, 88), (12, yX12_isHow, cX12_isHow, 1, (some .boolean), 1, 1467, 1466, 0, 88), (12, yX12_isSk, cX12_isSk, 1, (some .boolean), 1, 1464, 1463, 0, 88), (12, yX12_tries, cX12_tries, 6, (some .int), 0, 1461, 1459, 1460, 88), (12, yX12_angleFor, cX12_angleFor, 9, (some .int), 0, 1503, 1502, 52, 88), (12, yX12_pointsBest, cX12_pointsBest, 5, (some .int), 0, 1523, 1522, 55, 88), (12, yX12_angle, cX12_angle, 12, (some .int), 0, 1499, 1497, 1498, 88), (12, yX12_ordersOn, cX12_ordersOn, 9, none, 0, 1519, 1518, 54, 88), (12, yX12_order, cX12_order, 6, (some .int), 0, 1511, 1509, 1510, 88), (12, yX12_commonOf, cX12_commonOf, 10, (some .long), 1, 1538, 1537, 0, 88), (12, yX12_partOf, cX12_partOf, 7, (some .long), 1, 1535, 1534, 0, 88), (12, yX12_beats, cX12_beats, 6, (some .int), 0, 1532, 1531, 56, 88), (12, yX12_risk, cX12_risk, 5, (some .long), 0, 1527, 1525, 1526, 88), (12, yX12_risks, cX12_risks, 18, (some .long), 0, 1542, 1540, 1541, 88), (12, yX12_practice, cX12_practice, 9, (some .int), 0, 1546, 1544, 1545, 88)]
def mm_meL16 : List (Nat × MethodName × ByteArray × Nat × Option FieldType × Nat × Nat × Nat × Nat × Nat) := [(12, yX12_rowIs, cX12_rowIs, 3, (some .int), 0, 1554, 1553, 57, 88), (12, yX12_itemAt, cX12_itemAt, 3, (some .long), 0, 1565, 1564, 59, 88), (12, yX12_takesRow, cX12_takesRow, 6, none, 0, 1561, 1560, 58, 88), (12, yX12_isNr, cX12_isNr, 1, (some .boolean), 1, 1557, 1556, 0, 88), (12, yX12_scoreOf, cX12_scoreOf, 6, (some .int), 0, 1569, 1568, 60, 88), (12, yX12_match, cX12_match, 4, (some .int), 0, 1550, 1548, 1549, 88), (12, yX12_winnerOf, cX12_winnerOf, 6, (some .int), 0, 1577, 1576, 61, 88), (12, yX12_winner, cX12_winner, 3, (some .int), 0, 1573, 1571, 1572, 88), (12, yX12_lastOn, cX12_lastOn, 11, (some .long), 0, 1586, 1585, 62, 88), (12, yX12_last, cX12_last, 12, (some .long), 0, 1581, 1579, 1580, 88), (12, yX12_placeIn, cX12_placeIn, 3, (some .int), 0, 1594, 1593, 63, 88), (12, yX12_place, cX12_place, 12, (some .int), 0, 1590, 1588, 1589, 88), (12, yX12_handicap, cX12_handicap, 5, (some .int), 0, 1598, 1596, 1597, 88), (12, yX12_winsWith, cX12_winsWith, 9, (some .boolean), 0, 1602, 1601, 64, 88), (12, yX12_steps, cX12_steps, 3, (some .int), 0, 1606, 1604, 1605, 88)]
def mm_meL17 : List (Nat × MethodName × ByteArray × Nat × Option FieldType × Nat × Nat × Nat × Nat × Nat) := [(12, yX12_whose, cX12_whose, 5, (some .int), 0, 1610, 1608, 1609, 88), (12, yX12_firstFalse, cX12_firstFalse, 6, (some .int), 0, 1622, 1621, 66, 88), (12, yX12_isSa, cX12_isSa, 2, (some .boolean), 0, 1618, 1617, 65, 88), (12, yX12_judge, cX12_judge, 3, (some .int), 0, 1614, 1612, 1613, 88), (12, yX12_who, cX12_who, 7, (some .int), 0, 1626, 1624, 1625, 88), (12, yX12_ahead, cX12_ahead, 4, (some .int), 0, 1630, 1628, 1629, 88), (12, yX12_drawn, cX12_drawn, 13, (some .int), 0, 1634, 1632, 1633, 88), (12, yX12_spit, cX12_spit, 6, (some .int), 0, 1639, 1637, 1638, 88), (12, yX12_rest, cX12_rest, 3, (some .int), 0, 1643, 1641, 1642, 88), (12, yX12_led, cX12_led, 3, (some .int), 0, 1647, 1645, 1646, 88), (12, yX12_image, cX12_image, 2, (some .int), 0, 1651, 1649, 1650, 88), (12, yX12_back, cX12_back, 3, (some .int), 0, 1655, 1653, 1654, 88), (12, yX12_isBody, cX12_isBody, 2, (some .boolean), 0, 1667, 1666, 67, 88), (12, yX12_kindOf, cX12_kindOf, 2, (some .int), 0, 1726, 1725, 74, 88), (12, yX12_body, cX12_body, 2, (some .int), 0, 1659, 1657, 1658, 88)]
def mm_meL18 : List (Nat × MethodName × ByteArray × Nat × Option FieldType × Nat × Nat × Nat × Nat × Nat) := [(12, yX12_above, cX12_above, 1, (some .int), 1, 1729, 1728, 0, 88), (12, yX12_begins, cX12_begins, 2, none, 0, 1675, 1674, 69, 88), (12, yX12_spitsAs, cX12_spitsAs, 3, (some .int), 0, 1671, 1670, 68, 88), (12, yX12_landsAs, cX12_landsAs, 4, (some .int), 0, 1679, 1678, 70, 88), (12, yX12_rollsAs, cX12_rollsAs, 4, (some .int), 0, 1683, 1682, 71, 88), (12, yX12_tellsAs, cX12_tellsAs, 4, (some .int), 0, 1687, 1686, 72, 88), (12, yX12_act, cX12_act, 4, (some .int), 0, 1663, 1661, 1662, 88), (12, yX12_trace, cX12_trace, 2, (some .int), 0, 1691, 1689, 1690, 88), (12, yX12_isShelf, cX12_isShelf, 1, (some .boolean), 1, 1368, 1367, 0, 88), (12, yX12_keep, cX12_keep, 3, (some .int), 0, 1695, 1693, 1694, 88), (12, yX12_row, cX12_row, 5, (some .int), 0, 1699, 1697, 1698, 88), (12, yX12_refusal, cX12_refusal, 3, (some .int), 0, 1707, 1706, 73, 88), (12, yX12_asSort, cX12_asSort, 3, (some .long), 1, 1710, 1709, 0, 88), (12, yX12_put, cX12_put, 6, (some .int), 0, 1703, 1701, 1702, 88), (12, yX12_element, cX12_element, 3, (some .long), 0, 1714, 1712, 1713, 88)]
def mm_meL19 : List (Nat × MethodName × ByteArray × Nat × Option FieldType × Nat × Nat × Nat × Nat × Nat) := [(12, yX12_shift, cX12_shift, 7, (some .int), 0, 1718, 1716, 1717, 88), (12, yX12_taken, cX12_taken, 4, (some .int), 0, 1722, 1720, 1721, 88), (12, yX12_count, cX12_count, 2, (some .int), 0, 1733, 1731, 1732, 88), (13, yJ6_bitCount_0f7a4, cJ6_bitCount_0f7a4, 1, (some .int), 1, 656, 655, 0, 91)]
def mm_meL : List (Nat × MethodName × ByteArray × Nat × Option FieldType × Nat × Nat × Nat × Nat × Nat) := mm_meL0 ++ mm_meL1 ++ mm_meL2 ++ mm_meL3 ++ mm_meL4 ++ mm_meL5 ++ mm_meL6 ++ mm_meL7 ++ mm_meL8 ++ mm_meL9 ++ mm_meL10 ++ mm_meL11 ++ mm_meL12 ++ mm_meL13 ++ mm_meL14 ++ mm_meL15 ++ mm_meL16 ++ mm_meL17 ++ mm_meL18 ++ mm_meL19
def mm_me (y : Nat) : Nat × MethodName × ByteArray × Nat × Option FieldType × Nat × Nat × Nat × Nat × Nat := mm_meL.getD y (99, ⟨"", "", ""⟩, ⟨#[]⟩, 0, none, 0, 0, 0, 0, 0)
def mm_look {α : Type} (ls : List (Nat × (Nat × Nat) × α)) (o i : Nat) : Option α := (ls.find? (fun q => Nat.beq q.2.1.1 o && Nat.beq q.2.1.2 i)).map (fun q => q.2.2)
theorem mm_look_in {α : Type} {ls : List (Nat × (Nat × Nat) × α)} {o i : Nat} {x : α} (h : mm_look ls o i = some x) : ∃ n, (n, (o, i), x) ∈ ls := by
  unfold mm_look at h
  obtain ⟨q, hq, rfl⟩ := Option.map_eq_some_iff.mp h
  have h1 := List.find?_some hq
  have h2 := List.mem_of_find?_eq_some hq
  simp only [Bool.and_eq_true] at h1
  obtain ⟨n, ⟨a, b⟩, x⟩ := q
  exact ⟨n, by rw [← Nat.eq_of_beq_eq_true h1.1, ← Nat.eq_of_beq_eq_true h1.2]; exact h2⟩
theorem mm_fld_ok : ∀ q ∈ mm_fldL, q.2.2.2 < mm_n q.2.2.1 ∧ q.2.2.1 < 13 ∧ (mm_T q.2.2.1 q.2.2.2).1 = mm_R q.2.2.1 ∧ lw_tbl[q.1]? = some (Jvm.Cond.fieldLink (mm_R q.2.1.1) q.2.1.2 (mm_R q.2.2.1) (mm_T q.2.2.1 q.2.2.2).2.1 (mm_T q.2.2.1 q.2.2.2).2.2.1) := by decide +kernel
theorem mm_sta_ok : ∀ q ∈ mm_staL, lw_tbl[q.1]? = some (Jvm.Cond.fieldLink (mm_R q.2.1.1) q.2.1.2 q.2.2.2.1 q.2.2.2.2.1 q.2.2.2.2.2) := by decide +kernel
theorem mm_cla_ok : ∀ q ∈ mm_claL, q.2.2 < 13 ∧ lw_tbl[q.1]? = some (Jvm.Cond.classLink (mm_R q.2.1.1) q.2.1.2 (mm_R q.2.2)) ∧ Jvm.Cond.instantiable (mm_R q.2.2) (mm_n q.2.2) ∈ lw_tbl ∧ Jvm.Cond.initialized (mm_R q.2.2) ∈ lw_tbl := by decide +kernel
theorem mm_con_ok : ∀ q ∈ mm_conL, lw_tbl[q.1]? = some (Jvm.Cond.constant (mm_R q.2.1.1) q.2.1.2 (Int32.ofInt q.2.2)) := by decide +kernel
theorem mm_lon_ok : ∀ q ∈ mm_lonL, lw_tbl[q.1]? = some (Jvm.Cond.constantLong (mm_R q.2.1.1) q.2.1.2 (Int64.ofInt q.2.2)) := by decide +kernel
def mm_calC (o i k y : Nat) : Jvm.Cond := match k with
  | 3 => .methodLinkNest (mm_R o) i (mm_me y).2.1 "StonesOver"
  | 4 => .methodLink (mm_R o) i Lib.objectInit
  | 5 => .methodLink (mm_R o) i arraycopyName
  | 6 => .methodLink (mm_R o) i Lib.Math.max.name
  | 7 => .methodLink (mm_R o) i Lib.Math.abs.name
  | 8 => .methodLink (mm_R o) i Lib.Math.min.name
  | 9 => .methodLink (mm_R o) i Lib.MathLoose.min_long.x
  | _ => .methodLink (mm_R o) i (mm_me y).2.1
theorem mm_cal_ok : ∀ q ∈ mm_calL, lw_tbl[q.1]? = some (mm_calC q.2.1.1 q.2.1.2 q.2.2.1 q.2.2.2.1) := by decide +kernel
def mm_calD (k y n : Nat) : Bool := match k with
  | 0 => Nat.beq (mm_me y).2.2.2.2.2.1 0 && !decide ((mm_me y).2.1.name = "<init>") && decide ((parseMethodDescriptor (mm_me y).2.1.desc).map (fun d => d.parameters.length) = some n)
  | 1 => Nat.beq (mm_me y).2.2.2.2.2.1 1 && decide ((parseMethodDescriptor (mm_me y).2.1.desc).map (fun d => d.parameters.length) = some n)
  | 2 => Nat.beq (mm_me y).2.2.2.2.2.1 0 && decide ((mm_me y).2.1.name = "<init>") && decide ((mm_me y).2.2.2.2.1 = none) && decide ((parseMethodDescriptor (mm_me y).2.1.desc).map (fun d => d.parameters.length) = some n)
  | 3 => Nat.beq (mm_me y).2.2.2.2.2.1 0 && decide ((mm_me y).2.1.name = "<init>") && decide ((mm_me y).2.2.2.2.1 = none) && decide ((parseMethodDescriptor (mm_me y).2.1.desc).map (fun d => d.parameters.length) = some n)
  | _ => true
theorem mm_cal_ok2 : ∀ q ∈ mm_calL, q.2.2.2.1 < mm_meL.length ∧ mm_calD q.2.2.1 q.2.2.2.1 q.2.2.2.2 = true := by decide +kernel
def mm_meC (q : Nat × MethodName × ByteArray × Nat × Option FieldType × Nat × Nat × Nat × Nat × Nat) : Prop :=
  q.2.1.cls = mm_R q.1 ∧ q.1 < 15 ∧ q.2.2.2.1 ≤ 20 ∧ lw_tbl[q.2.2.2.2.2.2.1]? = some (Jvm.Cond.code q.2.1 q.2.2.1 q.2.2.2.1 q.2.2.2.2.1) ∧ lw_tbl[q.2.2.2.2.2.2.2.1]? = some (if q.2.2.2.2.2.1 = 1 then Jvm.Cond.static q.2.1 else Jvm.Cond.instanceMethod q.2.1) ∧ (q.2.2.2.2.2.1 = 1 ∨ q.2.1.name = "<init>" ∨ lw_tbl[q.2.2.2.2.2.2.2.2.1]? = some (Jvm.Cond.selects q.2.1.cls q.2.1 q.2.1)) ∧ lw_tbl[q.2.2.2.2.2.2.2.2.2]? = some (Jvm.Cond.initialized q.2.1.cls) ∧ plainName q.2.1.cls = true ∧ q.2.1.cls ≠ "java/lang/invoke/MethodHandle" ∧ q.2.1.cls ≠ "java/lang/invoke/VarHandle"
set_option maxRecDepth 100000 in
theorem mm_me_ok0 : ∀ q ∈ mm_meL0, mm_meC q := by unfold mm_meC; decide +kernel
set_option maxRecDepth 100000 in
theorem mm_me_ok1 : ∀ q ∈ mm_meL1, mm_meC q := by unfold mm_meC; decide +kernel
set_option maxRecDepth 100000 in
theorem mm_me_ok2 : ∀ q ∈ mm_meL2, mm_meC q := by unfold mm_meC; decide +kernel
set_option maxRecDepth 100000 in
theorem mm_me_ok3 : ∀ q ∈ mm_meL3, mm_meC q := by unfold mm_meC; decide +kernel
set_option maxRecDepth 100000 in
theorem mm_me_ok4 : ∀ q ∈ mm_meL4, mm_meC q := by unfold mm_meC; decide +kernel
set_option maxRecDepth 100000 in
theorem mm_me_ok5 : ∀ q ∈ mm_meL5, mm_meC q := by unfold mm_meC; decide +kernel
set_option maxRecDepth 100000 in
theorem mm_me_ok6 : ∀ q ∈ mm_meL6, mm_meC q := by unfold mm_meC; decide +kernel
set_option maxRecDepth 100000 in
theorem mm_me_ok7 : ∀ q ∈ mm_meL7, mm_meC q := by unfold mm_meC; decide +kernel
set_option maxRecDepth 100000 in
theorem mm_me_ok8 : ∀ q ∈ mm_meL8, mm_meC q := by unfold mm_meC; decide +kernel
set_option maxRecDepth 100000 in
theorem mm_me_ok9 : ∀ q ∈ mm_meL9, mm_meC q := by unfold mm_meC; decide +kernel
set_option maxRecDepth 100000 in
theorem mm_me_ok10 : ∀ q ∈ mm_meL10, mm_meC q := by unfold mm_meC; decide +kernel
set_option maxRecDepth 100000 in
theorem mm_me_ok11 : ∀ q ∈ mm_meL11, mm_meC q := by unfold mm_meC; decide +kernel
set_option maxRecDepth 100000 in
theorem mm_me_ok12 : ∀ q ∈ mm_meL12, mm_meC q := by unfold mm_meC; decide +kernel
set_option maxRecDepth 100000 in
theorem mm_me_ok13 : ∀ q ∈ mm_meL13, mm_meC q := by unfold mm_meC; decide +kernel
set_option maxRecDepth 100000 in
theorem mm_me_ok14 : ∀ q ∈ mm_meL14, mm_meC q := by unfold mm_meC; decide +kernel
set_option maxRecDepth 100000 in
theorem mm_me_ok15 : ∀ q ∈ mm_meL15, mm_meC q := by unfold mm_meC; decide +kernel
set_option maxRecDepth 100000 in
theorem mm_me_ok16 : ∀ q ∈ mm_meL16, mm_meC q := by unfold mm_meC; decide +kernel
set_option maxRecDepth 100000 in
theorem mm_me_ok17 : ∀ q ∈ mm_meL17, mm_meC q := by unfold mm_meC; decide +kernel
set_option maxRecDepth 100000 in
theorem mm_me_ok18 : ∀ q ∈ mm_meL18, mm_meC q := by unfold mm_meC; decide +kernel
set_option maxRecDepth 100000 in
theorem mm_me_ok19 : ∀ q ∈ mm_meL19, mm_meC q := by unfold mm_meC; decide +kernel
theorem mm_me_all : ∀ q ∈ mm_meL, mm_meC q := by
  unfold mm_meL
  intro q h
  simp only [List.mem_append] at h
  rcases h with (((((((((((((((((((h | h) | h) | h) | h) | h) | h) | h) | h) | h) | h) | h) | h) | h) | h) | h) | h) | h) | h) | h)
  · exact mm_me_ok0 q h
  · exact mm_me_ok1 q h
  · exact mm_me_ok2 q h
  · exact mm_me_ok3 q h
  · exact mm_me_ok4 q h
  · exact mm_me_ok5 q h
  · exact mm_me_ok6 q h
  · exact mm_me_ok7 q h
  · exact mm_me_ok8 q h
  · exact mm_me_ok9 q h
  · exact mm_me_ok10 q h
  · exact mm_me_ok11 q h
  · exact mm_me_ok12 q h
  · exact mm_me_ok13 q h
  · exact mm_me_ok14 q h
  · exact mm_me_ok15 q h
  · exact mm_me_ok16 q h
  · exact mm_me_ok17 q h
  · exact mm_me_ok18 q h
  · exact mm_me_ok19 q h
def mm_nest : Jvm.Cond → Bool
  | .methodLinkNest .. => true
  | _ => false
def mm_wds : List Jvm.Cond := lw_tbl.filter goodWord
theorem mm_wds_in {w : Jvm.Cond} {n : Nat} (h : lw_tbl[n]? = some w) (hg : goodWord w = true) : w ∈ mm_wds := List.mem_filter.mpr ⟨List.mem_of_getElem? h, hg⟩
theorem mm_wds_all : ∀ w ∈ mm_wds, (w.onTables && w.keeps) = true ∨ ∃ ty, w = .arrayClass ty := fun w h => good_of_word (List.mem_filter.mp h).2
end
section
/-! THE PURE MACHINE: the bytecode that these classes use, over a pure world: shapes of the cells (kind, length), and what they hold as functions of (cell, place): ints, longs, references. A reference is a place in the list of shapes; the first seven are arrays that nobody writes (the script, six static tables). Kinds: 0 int[], 1 boolean[], 2 long[], 3 Shelf[], 4 int[] only read, 5 long[] only read, 10 + c an object of class c. -/
abbrev mm_W : Type := List (Nat × Nat) × (Nat → Nat → Int32) × (Nat → Nat → Int64) × (Nat → Nat → Option Nat)
abbrev mm_L : Type := List (Option Value)
def mm_nth : List (Nat × Nat) → Nat → Nat × Nat
  | [], _ => (99, 0)
  | a :: _, 0 => a
  | _ :: l, n + 1 => mm_nth l n
def mm_get : mm_L → Nat → Option Value
  | [], _ => none
  | a :: _, 0 => a
  | _ :: l, n + 1 => mm_get l n
def mm_clr (L : mm_L) (i : Nat) : mm_L := match i with
  | 0 => L
  | j + 1 => match mm_get L j with
    | some v => cond (Nat.beq v.category 2) (L.set j none) L
    | none => L
def mm_set1 (L : mm_L) (i : Nat) (v : Value) : Option mm_L := cond (Nat.blt i L.length) (some ((mm_clr L i).set i (some v))) none
def mm_set2 (L : mm_L) (i : Nat) (v : Value) : Option mm_L := cond (Nat.blt (i + 1) L.length) (some (((mm_clr L i).set i (some v)).set (i + 1) none)) none
/-- one cell's contents exchanged -/
def mm_uc {α : Type} (I : Nat → Nat → α) (o : Nat) (f : Nat → α) : Nat → Nat → α := fun a => if a = o then f else I a
theorem mm_uc_self {α : Type} (I : Nat → Nat → α) (o : Nat) (f : Nat → α) : mm_uc I o f o = f := if_pos rfl
theorem mm_uc_ne {α : Type} (I : Nat → Nat → α) {o a : Nat} (f : Nat → α) (h : a ≠ o) : mm_uc I o f a = I a := if_neg h
/-- what a field holds -/
def mm_fa (w : mm_W) (k ci j : Nat) : Value := match mm_ty ci j with
  | .int => .int (w.2.1 k j)
  | .boolean => .int (w.2.1 k j)
  | .long => .long (w.2.2.1 k j)
  | _ => va_rf (w.2.2.2 k j)
def mm_cat (st : List Value) : Nat := match st with
  | [] => 0
  | v :: t => v.category + mm_cat t
/-- an instruction with its table's places resolved (and its length held against the one that it has) -/
def mm_res (o : Nat) (ini : Bool) (i : Instr) (len : Nat) : Option Instr := match i with
  | .iconst n => cond (Nat.beq len 1) (some (.iconst n)) none
  | .bipush n => cond (Nat.beq len 2) (cond (decide ((Int8.ofInt n).toInt32 = Int32.ofInt n)) (some (.iconst n)) none) none
  | .sipush n => cond (Nat.beq len 3) (cond (decide ((Int16.ofInt n).toInt32 = Int32.ofInt n)) (some (.iconst n)) none) none
  | .ldc x => cond (Nat.beq len 2) ((mm_look mm_conL o x).map .iconst) none
  | .ldc_w x => cond (Nat.beq len 3) ((mm_look mm_conL o x).map .iconst) none
  | .lconst n => cond (Nat.beq len 1) (cond (decide (Int64.ofNat (n : Nat) = Int64.ofInt ((n : Nat) : Int))) (some (.goto_w ((n : Nat) : Int))) none) none
  | .ldc2_w x => cond (Nat.beq len 3) ((mm_look mm_lonL o x).map .goto_w) none
  | .iload_n n => cond (Nat.beq len 1) (some (.iload n)) none
  | .iload n => cond (Nat.beq len 2) (some (.iload n)) none
  | .lload_n n => cond (Nat.beq len 1) (some (.lload n)) none
  | .lload n => cond (Nat.beq len 2) (some (.lload n)) none
  | .aload_n n => cond (Nat.beq len 1) (some (.aload n)) none
  | .aload n => cond (Nat.beq len 2) (some (.aload n)) none
  | .istore_n n => cond (Nat.beq len 1) (some (.istore n)) none
  | .istore n => cond (Nat.beq len 2) (some (.istore n)) none
  | .lstore_n n => cond (Nat.beq len 1) (some (.lstore n)) none
  | .lstore n => cond (Nat.beq len 2) (some (.lstore n)) none
  | .astore_n n => cond (Nat.beq len 1) (some (.astore n)) none
  | .astore n => cond (Nat.beq len 2) (some (.astore n)) none
  | .iinc n d => cond (Nat.beq len 3) (some (.iinc n d)) none
  | .iadd => cond (Nat.beq len 1) (some .iadd) none
  | .isub => cond (Nat.beq len 1) (some .isub) none
  | .imul => cond (Nat.beq len 1) (some .imul) none
  | .idiv => cond (Nat.beq len 1) (some .idiv) none
  | .irem => cond (Nat.beq len 1) (some .irem) none
  | .ineg => cond (Nat.beq len 1) (some .ineg) none
  | .iand => cond (Nat.beq len 1) (some .iand) none
  | .ior => cond (Nat.beq len 1) (some .ior) none
  | .ixor => cond (Nat.beq len 1) (some .ixor) none
  | .ishl => cond (Nat.beq len 1) (some .ishl) none
  | .ishr => cond (Nat.beq len 1) (some .ishr) none
  | .iushr => cond (Nat.beq len 1) (some .iushr) none
  | .i2l => cond (Nat.beq len 1) (some .i2l) none
  | .l2i => cond (Nat.beq len 1) (some .l2i) none
  | .i2b => cond (Nat.beq len 1) (some .i2b) none
  | .i2s => cond (Nat.beq len 1) (some .i2s) none
  | .ladd => cond (Nat.beq len 1) (some .ladd) none
  | .lsub => cond (Nat.beq len 1) (some .lsub) none
  | .lmul => cond (Nat.beq len 1) (some .lmul) none
  | .ldiv => cond (Nat.beq len 1) (some .ldiv) none
  | .lrem => cond (Nat.beq len 1) (some .lrem) none
  | .land => cond (Nat.beq len 1) (some .land) none
  | .lor => cond (Nat.beq len 1) (some .lor) none
  | .lshl => cond (Nat.beq len 1) (some .lshl) none
  | .lcmp => cond (Nat.beq len 1) (some .lcmp) none
  | .dup => cond (Nat.beq len 1) (some .dup) none
  | .dup2 => cond (Nat.beq len 1) (some .dup2) none
  | .pop => cond (Nat.beq len 1) (some .pop) none
  | .aconst_null => cond (Nat.beq len 1) (some .aconst_null) none
  | .arraylength => cond (Nat.beq len 1) (some .arraylength) none
  | .iaload => cond (Nat.beq len 1) (some .iaload) none
  | .iastore => cond (Nat.beq len 1) (some .iastore) none
  | .laload => cond (Nat.beq len 1) (some .laload) none
  | .lastore => cond (Nat.beq len 1) (some .lastore) none
  | .baload => cond (Nat.beq len 1) (some .baload) none
  | .bastore => cond (Nat.beq len 1) (some .bastore) none
  | .aaload => cond (Nat.beq len 1) (some .aaload) none
  | .aastore => cond (Nat.beq len 1) (some .aastore) none
  | .getfield x => cond (Nat.beq len 3) ((mm_look mm_fldL o x).map fun q => .getfield (q.1 * 64 + q.2)) none
  | .putfield x => cond (Nat.beq len 3) ((mm_look mm_fldL o x).bind fun q => cond (!(mm_T q.1 q.2).2.2.2 || (ini && Nat.beq q.1 o)) (some (.putfield (q.1 * 64 + q.2))) none) none
  | .getstatic x => cond (Nat.beq len 3) ((mm_look mm_staL o x).map fun q => .getstatic q.1) none
  | .new x => cond (Nat.beq len 3) ((mm_look mm_claL o x).map .new) none
  | .newarray t => cond (Nat.beq len 2) (some (.newarray t)) none
  | .anewarray x => cond (Nat.beq len 3) ((mm_look mm_claL o x).bind fun q => cond (Nat.beq q 8) (some (.anewarray q)) none) none
  | .goto d => cond (Nat.beq len 3) (some (.goto d)) none
  | .ifCond c d => cond (Nat.beq len 3) (some (.ifCond c d)) none
  | .if_icmp c d => cond (Nat.beq len 3) (some (.if_icmp c d)) none
  | .ifnull d => cond (Nat.beq len 3) (some (.ifnull d)) none
  | .ifnonnull d => cond (Nat.beq len 3) (some (.ifnonnull d)) none
  | .tableswitch d lo hi os => some (.tableswitch d lo hi os)
  | .lookupswitch d ps => some (.lookupswitch d ps)
  | .ireturn => cond (Nat.beq len 1) (some .ireturn) none
  | .lreturn => cond (Nat.beq len 1) (some .lreturn) none
  | .areturn => cond (Nat.beq len 1) (some .areturn) none
  | .return_ => cond (Nat.beq len 1) (some .return_) none
  | .invokevirtual x => cond (Nat.beq len 3) ((mm_look mm_calL o x).bind fun q => match q.1 with
    | 0 => some (.invokevirtual (q.2.1 * 16 + q.2.2))
    | _ => none) none
  | .invokestatic x => cond (Nat.beq len 3) ((mm_look mm_calL o x).bind fun q => match q.1 with
    | 1 => some (.invokestatic (q.2.1 * 16 + q.2.2))
    | 5 => some .monitorexit
    | 6 => some (.ldc 0)
    | 7 => some (.ldc 1)
    | 8 => some (.ldc 2)
    | 9 => some (.ldc 3)
    | _ => none) none
  | .invokespecial x => cond (Nat.beq len 3) ((mm_look mm_calL o x).bind fun q => match q.1 with
    | 2 => some (.invokespecial (q.2.1 * 16 + q.2.2))
    | 3 => some (.invokespecial (q.2.1 * 16 + q.2.2))
    | 4 => some .monitorenter
    | _ => none) none
  | _ => none
abbrev mm_Rs : Type := Option (Prop × mm_L × List Value × mm_W)
def mm_ii (f : Int32 → Int32 → Int32) (L : mm_L) (st : List Value) (w : mm_W) : mm_Rs := match st with
  | .int y :: .int x :: t => some (True, L, .int (f x y) :: t, w)
  | _ => none
theorem mm_ii_inv {f : Int32 → Int32 → Int32} {L : mm_L} {st : List Value} {w : mm_W} {r : Prop × mm_L × List Value × mm_W} (h : mm_ii f L st w = some r) : ∃ y x t, st = .int y :: .int x :: t ∧ (True, L, Value.int (f x y) :: t, w) = r := by
  unfold mm_ii at h
  split at h <;> cases h
  exact ⟨_, _, _, rfl, rfl⟩
def mm_jj (f : Int64 → Int64 → Int64) (L : mm_L) (st : List Value) (w : mm_W) : mm_Rs := match st with
  | .long y :: .long x :: t => some (True, L, .long (f x y) :: t, w)
  | _ => none
theorem mm_jj_inv {f : Int64 → Int64 → Int64} {L : mm_L} {st : List Value} {w : mm_W} {r : Prop × mm_L × List Value × mm_W} (h : mm_jj f L st w = some r) : ∃ y x t, st = .long y :: .long x :: t ∧ (True, L, Value.long (f x y) :: t, w) = r := by
  unfold mm_jj at h
  split at h <;> cases h
  exact ⟨_, _, _, rfl, rfl⟩
def mm_in (f : Int32 → Int32 → Int32) (L : mm_L) (st : List Value) (w : mm_W) : mm_Rs := match st with
  | .int y :: .int x :: t => some (¬ y = 0, L, .int (f x y) :: t, w)
  | _ => none
theorem mm_in_inv {f : Int32 → Int32 → Int32} {L : mm_L} {st : List Value} {w : mm_W} {r : Prop × mm_L × List Value × mm_W} (h : mm_in f L st w = some r) : ∃ y x t, st = .int y :: .int x :: t ∧ (¬ y = 0, L, Value.int (f x y) :: t, w) = r := by
  unfold mm_in at h
  split at h <;> cases h
  exact ⟨_, _, _, rfl, rfl⟩
def mm_jn (f : Int64 → Int64 → Int64) (L : mm_L) (st : List Value) (w : mm_W) : mm_Rs := match st with
  | .long y :: .long x :: t => some (¬ y = 0, L, .long (f x y) :: t, w)
  | _ => none
theorem mm_jn_inv {f : Int64 → Int64 → Int64} {L : mm_L} {st : List Value} {w : mm_W} {r : Prop × mm_L × List Value × mm_W} (h : mm_jn f L st w = some r) : ∃ y x t, st = .long y :: .long x :: t ∧ (¬ y = 0, L, Value.long (f x y) :: t, w) = r := by
  unfold mm_jn at h
  split at h <;> cases h
  exact ⟨_, _, _, rfl, rfl⟩
def mm_i1 (f : Int32 → Value) (L : mm_L) (st : List Value) (w : mm_W) : mm_Rs := match st with
  | .int x :: t => some (True, L, f x :: t, w)
  | _ => none
theorem mm_i1_inv {f : Int32 → Value} {L : mm_L} {st : List Value} {w : mm_W} {r : Prop × mm_L × List Value × mm_W} (h : mm_i1 f L st w = some r) : ∃ x t, st = .int x :: t ∧ (True, L, f x :: t, w) = r := by
  unfold mm_i1 at h
  split at h <;> cases h
  exact ⟨_, _, rfl, rfl⟩
def mm_j1 (f : Int64 → Value) (L : mm_L) (st : List Value) (w : mm_W) : mm_Rs := match st with
  | .long x :: t => some (True, L, f x :: t, w)
  | _ => none
theorem mm_j1_inv {f : Int64 → Value} {L : mm_L} {st : List Value} {w : mm_W} {r : Prop × mm_L × List Value × mm_W} (h : mm_j1 f L st w = some r) : ∃ x t, st = .long x :: t ∧ (True, L, f x :: t, w) = r := by
  unfold mm_j1 at h
  split at h <;> cases h
  exact ⟨_, _, rfl, rfl⟩
def mm_ij (f : Int64 → Int32 → Int64) (L : mm_L) (st : List Value) (w : mm_W) : mm_Rs := match st with
  | .int y :: .long x :: t => some (True, L, .long (f x y) :: t, w)
  | _ => none
theorem mm_ij_inv {f : Int64 → Int32 → Int64} {L : mm_L} {st : List Value} {w : mm_W} {r : Prop × mm_L × List Value × mm_W} (h : mm_ij f L st w = some r) : ∃ y x t, st = .int y :: .long x :: t ∧ (True, L, Value.long (f x y) :: t, w) = r := by
  unfold mm_ij at h
  split at h <;> cases h
  exact ⟨_, _, _, rfl, rfl⟩
def mm_ji (f : Int64 → Int64 → Int32) (L : mm_L) (st : List Value) (w : mm_W) : mm_Rs := match st with
  | .long y :: .long x :: t => some (True, L, .int (f x y) :: t, w)
  | _ => none
theorem mm_ji_inv {f : Int64 → Int64 → Int32} {L : mm_L} {st : List Value} {w : mm_W} {r : Prop × mm_L × List Value × mm_W} (h : mm_ji f L st w = some r) : ∃ y x t, st = .long y :: .long x :: t ∧ (True, L, Value.int (f x y) :: t, w) = r := by
  unfold mm_ji at h
  split at h <;> cases h
  exact ⟨_, _, _, rfl, rfl⟩
def mm_ldi (n : Nat) (L : mm_L) (st : List Value) (w : mm_W) : mm_Rs := match mm_get L n with
  | some (.int x) => some (True, L, .int x :: st, w)
  | _ => none
theorem mm_ldi_inv {n : Nat} {L : mm_L} {st : List Value} {w : mm_W} {r : Prop × mm_L × List Value × mm_W} (h : mm_ldi n L st w = some r) : ∃ x, mm_get L n = some (.int x) ∧ (True, L, Value.int x :: st, w) = r := by
  unfold mm_ldi at h
  split at h
  · cases h; exact ⟨_, ‹_›, rfl⟩
  · cases h
def mm_ldl (n : Nat) (L : mm_L) (st : List Value) (w : mm_W) : mm_Rs := match mm_get L n with
  | some (.long x) => some (True, L, .long x :: st, w)
  | _ => none
theorem mm_ldl_inv {n : Nat} {L : mm_L} {st : List Value} {w : mm_W} {r : Prop × mm_L × List Value × mm_W} (h : mm_ldl n L st w = some r) : ∃ x, mm_get L n = some (.long x) ∧ (True, L, Value.long x :: st, w) = r := by
  unfold mm_ldl at h
  split at h
  · cases h; exact ⟨_, ‹_›, rfl⟩
  · cases h
def mm_lda (n : Nat) (L : mm_L) (st : List Value) (w : mm_W) : mm_Rs := match mm_get L n with
  | some (.ref x) => some (True, L, .ref x :: st, w)
  | some .null => some (True, L, .null :: st, w)
  | _ => none
theorem mm_lda_inv {n : Nat} {L : mm_L} {st : List Value} {w : mm_W} {r : Prop × mm_L × List Value × mm_W} (h : mm_lda n L st w = some r) : (∃ x, mm_get L n = some (.ref x) ∧ (True, L, Value.ref x :: st, w) = r) ∨ (mm_get L n = some .null ∧ (True, L, Value.null :: st, w) = r) := by
  unfold mm_lda at h
  split at h
  · cases h; exact Or.inl ⟨_, ‹_›, rfl⟩
  · cases h; exact Or.inr ⟨‹_›, rfl⟩
  · cases h
def mm_sti (n : Nat) (L : mm_L) (st : List Value) (w : mm_W) : mm_Rs := match st with
  | .int x :: t => (mm_set1 L n (.int x)).map fun L1 => (True, L1, t, w)
  | _ => none
theorem mm_sti_inv {n : Nat} {L : mm_L} {st : List Value} {w : mm_W} {r : Prop × mm_L × List Value × mm_W} (h : mm_sti n L st w = some r) : ∃ x t L1, st = .int x :: t ∧ mm_set1 L n (.int x) = some L1 ∧ (True, L1, t, w) = r := by
  unfold mm_sti at h
  split at h
  · obtain ⟨L1, h1, h2⟩ := Option.map_eq_some_iff.mp h
    exact ⟨_, _, L1, rfl, h1, h2⟩
  · cases h
def mm_stl (n : Nat) (L : mm_L) (st : List Value) (w : mm_W) : mm_Rs := match st with
  | .long x :: t => (mm_set2 L n (.long x)).map fun L1 => (True, L1, t, w)
  | _ => none
theorem mm_stl_inv {n : Nat} {L : mm_L} {st : List Value} {w : mm_W} {r : Prop × mm_L × List Value × mm_W} (h : mm_stl n L st w = some r) : ∃ x t L1, st = .long x :: t ∧ mm_set2 L n (.long x) = some L1 ∧ (True, L1, t, w) = r := by
  unfold mm_stl at h
  split at h
  · obtain ⟨L1, h1, h2⟩ := Option.map_eq_some_iff.mp h
    exact ⟨_, _, L1, rfl, h1, h2⟩
  · cases h
def mm_sta (n : Nat) (L : mm_L) (st : List Value) (w : mm_W) : mm_Rs := match st with
  | .ref x :: t => (mm_set1 L n (.ref x)).map fun L1 => (True, L1, t, w)
  | .null :: t => (mm_set1 L n .null).map fun L1 => (True, L1, t, w)
  | _ => none
theorem mm_sta_inv {n : Nat} {L : mm_L} {st : List Value} {w : mm_W} {r : Prop × mm_L × List Value × mm_W} (h : mm_sta n L st w = some r) : (∃ x t L1, st = .ref x :: t ∧ mm_set1 L n (.ref x) = some L1 ∧ (True, L1, t, w) = r) ∨ (∃ t L1, st = .null :: t ∧ mm_set1 L n .null = some L1 ∧ (True, L1, t, w) = r) := by
  unfold mm_sta at h
  split at h
  · obtain ⟨L1, h1, h2⟩ := Option.map_eq_some_iff.mp h
    exact Or.inl ⟨_, _, L1, rfl, h1, h2⟩
  · obtain ⟨L1, h1, h2⟩ := Option.map_eq_some_iff.mp h
    exact Or.inr ⟨_, L1, rfl, h1, h2⟩
  · cases h
def mm_inc (n : Nat) (d : Int) (L : mm_L) (st : List Value) (w : mm_W) : mm_Rs := match mm_get L n with
  | some (.int x) => (mm_set1 L n (.int (x + Int32.ofInt d))).map fun L1 => (True, L1, st, w)
  | _ => none
theorem mm_inc_inv {n : Nat} {d : Int} {L : mm_L} {st : List Value} {w : mm_W} {r : Prop × mm_L × List Value × mm_W} (h : mm_inc n d L st w = some r) : ∃ x L1, mm_get L n = some (.int x) ∧ mm_set1 L n (.int (x + Int32.ofInt d)) = some L1 ∧ (True, L1, st, w) = r := by
  unfold mm_inc at h
  split at h
  · obtain ⟨L1, h1, h2⟩ := Option.map_eq_some_iff.mp h
    exact ⟨_, L1, ‹_›, h1, h2⟩
  · cases h
def mm_ix (i : Int32) (n : Nat) : Prop := ¬ (i < 0 ∨ n ≤ i.toNatClampNeg)
def mm_cond (b : Bool) (r : mm_Rs) : mm_Rs := match b with
  | true => r
  | false => none
theorem mm_cond_inv {b : Bool} {r : mm_Rs} {q : Prop × mm_L × List Value × mm_W} (h : mm_cond b r = some q) : b = true ∧ r = some q := by
  cases b
  · cases h
  · exact ⟨rfl, h⟩
def mm_dup (L : mm_L) (st : List Value) (w : mm_W) : mm_Rs := match st with
  | v :: t => mm_cond (Nat.beq v.category 1) (some (True, L, v :: v :: t, w))
  | _ => none
def mm_dup2 (L : mm_L) (st : List Value) (w : mm_W) : mm_Rs := match st with
  | v :: u :: t => mm_cond (Nat.beq v.category 1 && Nat.beq u.category 1) (some (True, L, v :: u :: v :: u :: t, w))
  | _ => none
def mm_pop (L : mm_L) (st : List Value) (w : mm_W) : mm_Rs := match st with
  | v :: t => mm_cond (Nat.beq v.category 1) (some (True, L, t, w))
  | _ => none
def mm_len (L : mm_L) (st : List Value) (w : mm_W) : mm_Rs := match st with
  | .ref k :: t => mm_cond (Nat.blt (mm_nth w.1 k).1 6) (some (True, L, .int (Int32.ofNat (mm_nth w.1 k).2) :: t, w))
  | _ => none
def mm_ald (ok : Nat → Bool) (f : mm_W → Nat → Nat → Value) (L : mm_L) (st : List Value) (w : mm_W) : mm_Rs := match st with
  | .int i :: .ref k :: t => mm_cond (ok (mm_nth w.1 k).1) (some (mm_ix i (mm_nth w.1 k).2, L, f w k i.toNatClampNeg :: t, w))
  | _ => none
theorem mm_ald_inv {ok : Nat → Bool} {f : mm_W → Nat → Nat → Value} {L : mm_L} {st : List Value} {w : mm_W} {r : Prop × mm_L × List Value × mm_W} (h : mm_ald ok f L st w = some r) : ∃ i k t, st = .int i :: .ref k :: t ∧ ok (mm_nth w.1 k).1 = true ∧ (mm_ix i (mm_nth w.1 k).2, L, f w k i.toNatClampNeg :: t, w) = r := by
  unfold mm_ald at h
  split at h
  · obtain ⟨h1, h2⟩ := mm_cond_inv h
    cases h2
    exact ⟨_, _, _, rfl, h1, rfl⟩
  · cases h
def mm_ist (kd : Nat) (f : Int32 → Int32) (L : mm_L) (st : List Value) (w : mm_W) : mm_Rs := match st with
  | .int x :: .int i :: .ref k :: t => mm_cond (Nat.beq (mm_nth w.1 k).1 kd) (some (mm_ix i (mm_nth w.1 k).2, L, t, (w.1, mm_uc w.2.1 k (upd (w.2.1 k) i.toNatClampNeg (f x)), w.2.2)))
  | _ => none
theorem mm_ist_inv {kd : Nat} {f : Int32 → Int32} {L : mm_L} {st : List Value} {w : mm_W} {r : Prop × mm_L × List Value × mm_W} (h : mm_ist kd f L st w = some r) : ∃ x i k t, st = .int x :: .int i :: .ref k :: t ∧ (mm_nth w.1 k).1 = kd ∧ (mm_ix i (mm_nth w.1 k).2, L, t, (w.1, mm_uc w.2.1 k (upd (w.2.1 k) i.toNatClampNeg (f x)), w.2.2)) = r := by
  unfold mm_ist at h
  split at h
  · obtain ⟨h1, h2⟩ := mm_cond_inv h
    cases h2
    exact ⟨_, _, _, _, rfl, Nat.eq_of_beq_eq_true h1, rfl⟩
  · cases h
def mm_jst (L : mm_L) (st : List Value) (w : mm_W) : mm_Rs := match st with
  | .long x :: .int i :: .ref k :: t => mm_cond (Nat.beq (mm_nth w.1 k).1 2) (some (mm_ix i (mm_nth w.1 k).2, L, t, (w.1, w.2.1, mm_uc w.2.2.1 k (vp_updL (w.2.2.1 k) i.toNatClampNeg x), w.2.2.2)))
  | _ => none
def mm_rst (L : mm_L) (st : List Value) (w : mm_W) : mm_Rs := match st with
  | .ref v :: .int i :: .ref k :: t => mm_cond (Nat.beq (mm_nth w.1 k).1 3 && Nat.beq (mm_nth w.1 v).1 18) (some (mm_ix i (mm_nth w.1 k).2, L, t, (w.1, w.2.1, w.2.2.1, mm_uc w.2.2.2 k (va_up (w.2.2.2 k) i.toNatClampNeg (some v)))))
  | _ => none
def mm_gf (e : Nat) (L : mm_L) (st : List Value) (w : mm_W) : mm_Rs := match st with
  | .ref k :: t => mm_cond (Nat.beq (mm_nth w.1 k).1 (e / 64 + 10)) (some (True, L, mm_fa w k (e / 64) (e % 64) :: t, w))
  | _ => none
def mm_pv (ty : FieldType) (k j : Nat) (v : Value) (L : mm_L) (t : List Value) (w : mm_W) : mm_Rs := match ty, v with
  | .int, .int x => some (True, L, t, (w.1, mm_uc w.2.1 k (upd (w.2.1 k) j x), w.2.2))
  | .boolean, .int x => some (x = 0 ∨ x = 1, L, t, (w.1, mm_uc w.2.1 k (upd (w.2.1 k) j x), w.2.2))
  | .long, .long x => some (True, L, t, (w.1, w.2.1, mm_uc w.2.2.1 k (vp_updL (w.2.2.1 k) j x), w.2.2.2))
  | .object _, .ref x => some (True, L, t, (w.1, w.2.1, w.2.2.1, mm_uc w.2.2.2 k (va_up (w.2.2.2 k) j (some x))))
  | .array _, .ref x => some (True, L, t, (w.1, w.2.1, w.2.2.1, mm_uc w.2.2.2 k (va_up (w.2.2.2 k) j (some x))))
  | _, _ => none
def mm_pf (e : Nat) (L : mm_L) (st : List Value) (w : mm_W) : mm_Rs := match st with
  | v :: .ref k :: t => mm_cond (Nat.beq (mm_nth w.1 k).1 (e / 64 + 10)) (mm_pv (mm_ty (e / 64) (e % 64)) k (e % 64) v L t w)
  | _ => none
def mm_nw (ci : Nat) (L : mm_L) (st : List Value) (w : mm_W) : mm_Rs := some (True, L, .ref w.1.length :: st, (w.1 ++ [(ci + 10, mm_n ci)], mm_uc w.2.1 w.1.length (fun _ => 0), mm_uc w.2.2.1 w.1.length (fun _ => 0), mm_uc w.2.2.2 w.1.length (fun _ => none)))
def mm_na (kd : Nat) (L : mm_L) (st : List Value) (w : mm_W) : mm_Rs := match st with
  | .int n :: t => some (¬ n < 0 ∧ n.toNatClampNeg ≤ 100000, L, .ref w.1.length :: t, (w.1 ++ [(kd, n.toNatClampNeg)], mm_uc w.2.1 w.1.length (fun _ => 0), mm_uc w.2.2.1 w.1.length (fun _ => 0), mm_uc w.2.2.2 w.1.length (fun _ => none)))
  | _ => none
theorem mm_na_inv {kd : Nat} {L : mm_L} {st : List Value} {w : mm_W} {r : Prop × mm_L × List Value × mm_W} (h : mm_na kd L st w = some r) : ∃ n t, st = .int n :: t ∧ (¬ n < 0 ∧ n.toNatClampNeg ≤ 100000, L, Value.ref w.1.length :: t, ((w.1 ++ [(kd, n.toNatClampNeg)], mm_uc w.2.1 w.1.length (fun _ => 0), mm_uc w.2.2.1 w.1.length (fun _ => 0), mm_uc w.2.2.2 w.1.length (fun _ => none)) : mm_W)) = r := by
  unfold mm_na at h
  split at h <;> cases h
  exact ⟨_, _, rfl, rfl⟩
def mm_nat (t : ArrayType) (L : mm_L) (st : List Value) (w : mm_W) : mm_Rs := match t with
  | .int => mm_na 0 L st w
  | .boolean => mm_na 1 L st w
  | .long => mm_na 2 L st w
  | _ => none
def mm_oi (L : mm_L) (st : List Value) (w : mm_W) : mm_Rs := match st with
  | .ref _ :: t => mm_cond (Nat.ble (mm_cat t) 8) (some (True, L, t, w))
  | _ => none
def mm_ma (k : Nat) (L : mm_L) (st : List Value) (w : mm_W) : mm_Rs := match k, st with
  | 0, .int y :: .int x :: t => mm_cond (Nat.ble (mm_cat t) 8) (some (True, L, .int (if x < y then y else x) :: t, w))
  | 1, .int x :: t => mm_cond (Nat.ble (mm_cat t) 8) (some (True, L, .int (if 0 ≤ x then x else 0 - x) :: t, w))
  | 2, .int y :: .int x :: t => mm_cond (Nat.ble (mm_cat t) 8) (some (True, L, .int (if y < x then y else x) :: t, w))
  | 3, .long y :: .long x :: t => mm_cond (Nat.ble (mm_cat t) 8) (some (True, L, .long (if y < x then y else x) :: t, w))
  | _, _ => none
def mm_ac (L : mm_L) (st : List Value) (w : mm_W) : mm_Rs := match st with
  | .int n :: .int dp :: .ref b :: .int sp :: .ref a :: t => mm_cond (Nat.ble (mm_cat t) 8)
      (cond (Nat.beq (mm_nth w.1 a).1 0 && Nat.beq (mm_nth w.1 b).1 0)
        (some ((¬ sp < 0 ∧ ¬ dp < 0 ∧ ¬ n < 0) ∧ sp.toNatClampNeg + n.toNatClampNeg ≤ (mm_nth w.1 a).2 ∧ dp.toNatClampNeg + n.toNatClampNeg ≤ (mm_nth w.1 b).2, L, t, (w.1, mm_uc w.2.1 b (va_cpy (w.2.1 a) (w.2.1 b) sp.toNatClampNeg dp.toNatClampNeg n.toNatClampNeg), w.2.2)))
        (mm_cond (Nat.beq (mm_nth w.1 a).1 2 && Nat.beq (mm_nth w.1 b).1 2)
          (some ((¬ sp < 0 ∧ ¬ dp < 0 ∧ ¬ n < 0) ∧ sp.toNatClampNeg + n.toNatClampNeg ≤ (mm_nth w.1 a).2 ∧ dp.toNatClampNeg + n.toNatClampNeg ≤ (mm_nth w.1 b).2, L, t, (w.1, w.2.1, mm_uc w.2.2.1 b (va_cpy (w.2.2.1 a) (w.2.2.1 b) sp.toNatClampNeg dp.toNatClampNeg n.toNatClampNeg), w.2.2.2)))))
  | _ => none
/-- the straight instructions: what must hold, and what then stands -/
def mm_seq (i : Instr) (L : mm_L) (st : List Value) (w : mm_W) : mm_Rs := match i with
  | .iconst n => some (True, L, .int (Int32.ofInt n) :: st, w)
  | .goto_w n => some (True, L, .long (Int64.ofInt n) :: st, w)
  | .iload n => mm_ldi n L st w
  | .lload n => mm_ldl n L st w
  | .aload n => mm_lda n L st w
  | .istore n => mm_sti n L st w
  | .lstore n => mm_stl n L st w
  | .astore n => mm_sta n L st w
  | .iinc n d => mm_inc n d L st w
  | .iadd => mm_ii (fun x y => x + y) L st w
  | .isub => mm_ii (fun x y => x - y) L st w
  | .imul => mm_ii (fun x y => x * y) L st w
  | .iand => mm_ii (fun x y => x &&& y) L st w
  | .ior => mm_ii (fun x y => x ||| y) L st w
  | .ixor => mm_ii (fun x y => x ^^^ y) L st w
  | .ishl => mm_ii (fun x y => x <<< (y &&& 31)) L st w
  | .ishr => mm_ii (fun x y => x >>> (y &&& 31)) L st w
  | .iushr => mm_ii (fun x y => (x.toUInt32 >>> (y.toUInt32 &&& Int32.toUInt32 31)).toInt32) L st w
  | .idiv => mm_in (fun x y => x / y) L st w
  | .irem => mm_in (fun x y => x - x / y * y) L st w
  | .ineg => mm_i1 (fun x => .int (-x)) L st w
  | .i2l => mm_i1 (fun x => .long x.toInt64) L st w
  | .l2i => mm_j1 (fun x => .int x.toInt32) L st w
  | .i2b => mm_i1 (fun x => .int x.toInt8.toInt32) L st w
  | .i2s => mm_i1 (fun x => .int x.toInt16.toInt32) L st w
  | .ladd => mm_jj (fun x y => x + y) L st w
  | .lsub => mm_jj (fun x y => x - y) L st w
  | .lmul => mm_jj (fun x y => x * y) L st w
  | .land => mm_jj (fun x y => x &&& y) L st w
  | .lor => mm_jj (fun x y => x ||| y) L st w
  | .ldiv => mm_jn (fun x y => x / y) L st w
  | .lrem => mm_jn (fun x y => x - x / y * y) L st w
  | .lshl => mm_ij (fun x y => x <<< (y.toInt64 &&& 63)) L st w
  | .lcmp => mm_ji lg_cmp L st w
  | .dup => mm_dup L st w
  | .dup2 => mm_dup2 L st w
  | .pop => mm_pop L st w
  | .aconst_null => some (True, L, .null :: st, w)
  | .getstatic k => mm_cond (Nat.blt k 7 && Nat.blt 0 k) (some (True, L, .ref k :: st, w))
  | .arraylength => mm_len L st w
  | .iaload => mm_ald (fun k => Nat.beq k 0 || Nat.beq k 4) (fun w k i => .int (w.2.1 k i)) L st w
  | .baload => mm_ald (fun k => Nat.beq k 1) (fun w k i => .int (w.2.1 k i)) L st w
  | .laload => mm_ald (fun k => Nat.beq k 2 || Nat.beq k 5) (fun w k i => .long (w.2.2.1 k i)) L st w
  | .aaload => mm_ald (fun k => Nat.beq k 3) (fun w k i => va_rf (w.2.2.2 k i)) L st w
  | .iastore => mm_ist 0 (fun x => x) L st w
  | .bastore => mm_ist 1 (vp_nar .boolean) L st w
  | .lastore => mm_jst L st w
  | .aastore => mm_rst L st w
  | .getfield e => mm_gf e L st w
  | .putfield e => mm_pf e L st w
  | .new ci => mm_nw ci L st w
  | .newarray t => mm_nat t L st w
  | .anewarray _ => mm_na 3 L st w
  | .monitorenter => mm_oi L st w
  | .ldc k => mm_ma k L st w
  | .monitorexit => mm_ac L st w
  | _ => none
def mm_c2 (c : ClassFile.Cond) (x y : Int32) (t f : Nat) : Nat := match c with
  | .eq => if x = y then t else f
  | .ne => if x = y then f else t
  | .lt => if x < y then t else f
  | .ge => if y ≤ x then t else f
  | .gt => if y < x then t else f
  | .le => if x ≤ y then t else f
def mm_tgt (pc : Nat) (d : Int) : Nat := ((pc : Int) + d).toNat
/-- the branches: whither, and what is left on the stack -/
def mm_br (i : Instr) (pc : Nat) (st : List Value) : Option (Nat × List Value) := match i with
  | .goto d => cond (decide (0 ≤ (pc : Int) + d)) (some (mm_tgt pc d, st)) none
  | .ifCond c d => match st with
    | .int x :: t => cond (decide (0 ≤ (pc : Int) + d)) (some (mm_c2 c x 0 (mm_tgt pc d) (pc + 3), t)) none
    | _ => none
  | .if_icmp c d => match st with
    | .int y :: .int x :: t => cond (decide (0 ≤ (pc : Int) + d)) (some (mm_c2 c x y (mm_tgt pc d) (pc + 3), t)) none
    | _ => none
  | .ifnull d => match st with
    | .null :: t => cond (decide (0 ≤ (pc : Int) + d)) (some (mm_tgt pc d, t)) none
    | .ref _ :: t => some (pc + 3, t)
    | _ => none
  | .ifnonnull d => match st with
    | .null :: t => some (pc + 3, t)
    | .ref _ :: t => cond (decide (0 ≤ (pc : Int) + d)) (some (mm_tgt pc d, t)) none
    | _ => none
  | .tableswitch d lo hi os => match st with
    | .int x :: t => cond (os.all (fun q => decide (0 ≤ (pc : Int) + q)) && decide (0 ≤ (pc : Int) + d) && decide (os.size = (hi - lo + 1).toNat))
      (some (if x.toInt < lo ∨ hi < x.toInt then mm_tgt pc d else mm_tgt pc (os.toList.getD (x.toInt - lo).toNat 0), t)) none
    | _ => none
  | .lookupswitch d ps => match st with
    | .int x :: t => cond (ps.all (fun q => decide (0 ≤ (pc : Int) + q.2)) && decide (0 ≤ (pc : Int) + d) && (ps.toList.zip (ps.toList.drop 1)).all (fun (a, next) => a.1 < next.1))
      (some (mm_tgt pc (Op.lookupswitch.offset ps.toList d x.toInt), t)) none
    | _ => none
  | _ => none
def mm_ret (i : Instr) (rt : Option FieldType) (st : List Value) (r : Option Value) : Prop := match i, rt, st with
  | .ireturn, some .int, [.int x] => r = some (.int x)
  | .ireturn, some .boolean, [.int x] => (x = 0 ∨ x = 1) ∧ r = some (.int x)
  | .lreturn, some .long, [.long x] => r = some (.long x)
  | .areturn, some (.object _), [.ref x] => r = some (.ref x)
  | .areturn, some (.object _), [.null] => r = some .null
  | .return_, none, [] => r = none
  | _, _, _ => False
/-- the calls: the method, its arguments, what is left on the stack -/
def mm_call (i : Instr) (st : List Value) (w : mm_W) : Option (Nat × List Value × List Value) := match i with
  | .invokestatic e => cond (Nat.ble (e % 16) st.length && Nat.ble (mm_cat (st.drop (e % 16))) 8) (some (e / 16, (st.take (e % 16)).reverse, st.drop (e % 16))) none
  | .invokevirtual e => match st.drop (e % 16) with
    | .ref k :: t => cond (Nat.ble (mm_cat t) 8 && Nat.beq (mm_nth w.1 k).1 ((mm_me (e / 16)).1 + 10)) (some (e / 16, .ref k :: (st.take (e % 16)).reverse, t)) none
    | _ => none
  | .invokespecial e => match st.drop (e % 16) with
    | .ref k :: t => cond (Nat.ble (mm_cat t) 8) (some (e / 16, .ref k :: (st.take (e % 16)).reverse, t)) none
    | _ => none
  | _ => none
/-- how a method begins -/
def mm_ini (n : Nat) (as : List Value) : mm_L := match as with
  | [] => List.replicate n none
  | v :: t => cond (Nat.beq v.category 2) (some v :: none :: mm_ini (n - 2) t) (some v :: mm_ini (n - 1) t)
abbrev mm_Cl : Type := Nat → List Value → mm_W → Option Value → mm_W → Prop
/-- in n steps it returns r, with the world w1 behind it -/
def mm_Ex (Cl : mm_Cl) (o : Nat) (ini : Bool) (cc : ByteArray) (rt : Option FieldType) : Nat → Nat → mm_L → List Value → mm_W → Option Value → mm_W → Prop
  | 0, _, _, _, _, _, _ => False
  | n + 1, pc, L, st, w, r, w1 => ∃ (i : Instr) (len : Nat) (j : Instr), decode cc pc = .ok (i, len) ∧ mm_res o ini i len = some j ∧
    ((∃ (P : Prop) (L' : mm_L) (st' : List Value) (w' : mm_W), mm_seq j L st w = some (P, L', st', w') ∧ P ∧ mm_Ex Cl o ini cc rt n (pc + len) L' st' w' r w1) ∨
     (∃ (pc' : Nat) (st' : List Value), mm_br j pc st = some (pc', st') ∧ mm_Ex Cl o ini cc rt n pc' L st' w r w1) ∨
     (mm_ret j rt st r ∧ w1 = w) ∨
     (∃ (y : Nat) (as t : List Value) (r' : Option Value) (w' : mm_W), mm_call j st w = some (y, as, t) ∧ Cl y as w r' w' ∧ mm_Ex Cl o ini cc rt n (pc + 3) L (r'.toList ++ t) w' r w1))
/-- method y, calls at most d deep -/
def mm_Runs : Nat → mm_Cl
  | 0 => fun _ _ _ _ _ => False
  | d + 1 => fun y as w r w1 => (mm_ini (mm_me y).2.2.2.1 as).length = (mm_me y).2.2.2.1 ∧ y < mm_meL.length ∧
    ∃ n, mm_Ex (mm_Runs d) (mm_me y).1 (decide ((mm_me y).2.1.name = "<init>")) (mm_me y).2.2.1 (mm_me y).2.2.2.2.1 n 0 (mm_ini (mm_me y).2.2.2.1 as) [] w r w1
end
section
/-! the pure world against the heap -/
def mm_ad (base : Nat) (ro : Nat → Nat) (k : Nat) : Nat := if k < 7 then ro k else base + (k - 7)
def mm_cv (ad : Nat → Nat) (v : Value) : Value := match v with
  | .ref k => .ref (ad k)
  | v => v
theorem mm_cv_cat (ad : Nat → Nat) (v : Value) : (mm_cv ad v).category = v.category := by cases v <;> rfl
theorem mm_cv_rf (ad : Nat → Nat) (r : Option Nat) : mm_cv ad (va_rf r) = va_rf (r.map ad) := by cases r <;> rfl
def mm_cell (cT : Nat → ClassId) (ad : Nat → Nat) (w : mm_W) (k : Nat) : va_E :=
  if (mm_nth w.1 k).1 = 0 then .inl (cT 0, (mm_nth w.1 k).2, .inl (w.2.1 k))
  else if (mm_nth w.1 k).1 = 1 then .inl (cT 1, (mm_nth w.1 k).2, .inl (w.2.1 k))
  else if (mm_nth w.1 k).1 = 2 then .inl (cT 2, (mm_nth w.1 k).2, .inr (.inl (w.2.2.1 k)))
  else if (mm_nth w.1 k).1 = 3 then .inl (cT 3, (mm_nth w.1 k).2, .inr (.inr (.inr (.inr (fun j => (w.2.2.2 k j).map ad)))))
  else .inr ((mm_nth w.1 k).1 - 10, (List.range (mm_n ((mm_nth w.1 k).1 - 10))).map (fun j => mm_cv ad (mm_fa w k ((mm_nth w.1 k).1 - 10) j)))
theorem mm_cell0 {cT : Nat → ClassId} {ad : Nat → Nat} {w : mm_W} {k : Nat} (h : (mm_nth w.1 k).1 = 0) : mm_cell cT ad w k = .inl (cT 0, (mm_nth w.1 k).2, .inl (w.2.1 k)) := by unfold mm_cell; rw [if_pos h]
theorem mm_cell1 {cT : Nat → ClassId} {ad : Nat → Nat} {w : mm_W} {k : Nat} (h : (mm_nth w.1 k).1 = 1) : mm_cell cT ad w k = .inl (cT 1, (mm_nth w.1 k).2, .inl (w.2.1 k)) := by unfold mm_cell; rw [if_neg (by omega), if_pos h]
theorem mm_cell2 {cT : Nat → ClassId} {ad : Nat → Nat} {w : mm_W} {k : Nat} (h : (mm_nth w.1 k).1 = 2) : mm_cell cT ad w k = .inl (cT 2, (mm_nth w.1 k).2, .inr (.inl (w.2.2.1 k))) := by unfold mm_cell; rw [if_neg (by omega), if_neg (by omega), if_pos h]
theorem mm_cell3 {cT : Nat → ClassId} {ad : Nat → Nat} {w : mm_W} {k : Nat} (h : (mm_nth w.1 k).1 = 3) : mm_cell cT ad w k = .inl (cT 3, (mm_nth w.1 k).2, .inr (.inr (.inr (.inr (fun j => (w.2.2.2 k j).map ad))))) := by unfold mm_cell; rw [if_neg (by omega), if_neg (by omega), if_neg (by omega), if_pos h]
theorem mm_cellO {cT : Nat → ClassId} {ad : Nat → Nat} {w : mm_W} {k ci : Nat} (h : (mm_nth w.1 k).1 = ci + 10) : mm_cell cT ad w k = .inr (ci, (List.range (mm_n ci)).map (fun j => mm_cv ad (mm_fa w k ci j))) := by
  unfold mm_cell
  rw [if_neg (by omega), if_neg (by omega), if_neg (by omega), if_neg (by omega), h]
  simp
theorem mm_nth_lt : ∀ {S : List (Nat × Nat)} {k : Nat}, (mm_nth S k).1 ≠ 99 → k < S.length
  | [], _, h => absurd rfl h
  | _ :: _, 0, _ => Nat.zero_lt_succ _
  | _ :: l, n + 1, h => Nat.succ_lt_succ (mm_nth_lt (S := l) (k := n) h)
theorem mm_nth_out : ∀ {S : List (Nat × Nat)} {k : Nat}, S.length ≤ k → mm_nth S k = (99, 0)
  | [], _, _ => by unfold mm_nth; rfl
  | _ :: _, 0, h => absurd h (by simp)
  | _ :: l, n + 1, h => mm_nth_out (S := l) (k := n) (Nat.le_of_succ_le_succ h)
theorem mm_nth_app : ∀ {S : List (Nat × Nat)} {x : Nat × Nat} {k : Nat}, k < S.length → mm_nth (S ++ [x]) k = mm_nth S k
  | [], _, _, h => absurd h (by simp)
  | _ :: _, _, 0, _ => rfl
  | _ :: l, x, n + 1, h => mm_nth_app (S := l) (x := x) (k := n) (Nat.lt_of_succ_lt_succ h)
theorem mm_nth_end : ∀ {S : List (Nat × Nat)} {x : Nat × Nat}, mm_nth (S ++ [x]) S.length = x
  | [], _ => rfl
  | _ :: l, x => mm_nth_end (S := l) (x := x)
def mm_sl (S : List (Nat × Nat)) : Nat := (S.map fun q => q.2).sum
theorem mm_sl_app (S : List (Nat × Nat)) (x : Nat × Nat) : mm_sl (S ++ [x]) = mm_sl S + x.2 := by simp [mm_sl]
def mm_all (cT : Nat → ClassId) (base : Nat) (ro : Nat → Nat) (w : mm_W) : va_W := (List.range (w.1.length - 7)).map (fun k => (base + k, mm_cell cT (mm_ad base ro) w (k + 7)))
section MMW
variable {D : va_G} {cT : Nat → ClassId} {base : Nat} {ro : Nat → Nat} {w w' : mm_W} {k : Nat}
theorem mm_ad7 (h : 7 ≤ k) : mm_ad base ro k = base + (k - 7) := if_neg (by omega)
theorem mm_all_at (h7 : 7 ≤ k) (hk : k < w.1.length) : (mm_all cT base ro w)[k - 7]? = some (mm_ad base ro k, mm_cell cT (mm_ad base ro) w k) := by
  unfold mm_all
  rw [List.getElem?_map, List.getElem?_range (by omega), mm_ad7 h7]
  simp only [Option.map_some]
  rw [show k - 7 + 7 = k by omega]
theorem mm_all_in {i : Nat} {q : Nat × va_E} (h : (mm_all cT base ro w)[i]? = some q) : i + 7 < w.1.length ∧ q = (base + i, mm_cell cT (mm_ad base ro) w (i + 7)) := by
  unfold mm_all at h
  rw [List.getElem?_map] at h
  obtain ⟨j, hj, rfl⟩ := Option.map_eq_some_iff.mp h
  have h1 := (List.getElem?_eq_some_iff.mp hj).1
  rw [List.length_range] at h1
  rw [List.getElem?_range h1] at hj
  cases hj
  exact ⟨by omega, rfl⟩
theorem mm_all_D : va_D (fun q => base ≤ q) (mm_all cT base ro w) := by
  refine ⟨fun i j p q hi hj h => ?_, fun i q hi => ?_⟩
  · obtain ⟨-, rfl⟩ := mm_all_in hi
    obtain ⟨-, rfl⟩ := mm_all_in hj
    simp only at h
    omega
  · obtain ⟨-, rfl⟩ := mm_all_in hi
    exact Nat.le_add_right _ _
/-- the worlds differ at one cell at most -/
def mm_off (k : Nat) (w w' : mm_W) : Prop := w'.1 = w.1 ∧ ∀ a, a ≠ k → w'.2.1 a = w.2.1 a ∧ w'.2.2.1 a = w.2.2.1 a ∧ w'.2.2.2 a = w.2.2.2 a
theorem mm_cell_eq {a : Nat} (h0 : mm_nth w'.1 a = mm_nth w.1 a) (h1 : w'.2.1 a = w.2.1 a) (h2 : w'.2.2.1 a = w.2.2.1 a) (h3 : w'.2.2.2 a = w.2.2.2 a) {ad : Nat → Nat} : mm_cell cT ad w' a = mm_cell cT ad w a := by
  unfold mm_cell mm_fa
  simp only [h0, h1, h2, h3]
theorem mm_cell_off (h : mm_off k w w') {a : Nat} (ha : a ≠ k) {ad : Nat → Nat} : mm_cell cT ad w' a = mm_cell cT ad w a := by
  obtain ⟨h1, h2, h3⟩ := h.2 a ha
  exact mm_cell_eq (by rw [h.1]) h1 h2 h3
theorem mm_all_set (h : mm_off k w w') (h7 : 7 ≤ k) (hk : k < w.1.length) : (mm_all cT base ro w).set (k - 7) (mm_ad base ro k, mm_cell cT (mm_ad base ro) w' k) = mm_all cT base ro w' := by
  apply List.ext_getElem?
  intro i
  have hl : (mm_all cT base ro w).length = w.1.length - 7 := by simp [mm_all]
  by_cases hi : i = k - 7
  · subst hi
    rw [List.getElem?_set_self (by omega), mm_all_at h7 (by rw [h.1]; exact hk)]
  · rw [List.getElem?_set_ne (fun z => hi z.symm)]
    by_cases hlt : i + 7 < w.1.length
    · have e1 := mm_all_at (cT := cT) (base := base) (ro := ro) (w := w) (k := i + 7) (by omega) hlt
      have e2 := mm_all_at (cT := cT) (base := base) (ro := ro) (w := w') (k := i + 7) (by omega) (by rw [h.1]; exact hlt)
      rw [show i + 7 - 7 = i by omega] at e1 e2
      rw [e1, e2, mm_cell_off h (by omega)]
    · rw [List.getElem?_eq_none (by omega), List.getElem?_eq_none (by simp [mm_all, h.1]; omega)]
theorem mm_all_push (hl : w'.1.length = w.1.length + 1) (h7 : 7 ≤ w.1.length) (h : ∀ a, a < w.1.length → mm_cell cT (mm_ad base ro) w' a = mm_cell cT (mm_ad base ro) w a) : mm_all cT base ro w' = mm_all cT base ro w ++ [(base + (w.1.length - 7), mm_cell cT (mm_ad base ro) w' w.1.length)] := by
  have e : w'.1.length - 7 = (w.1.length - 7) + 1 := by omega
  unfold mm_all
  rw [e, List.range_succ, List.map_append]
  congr 1
  · apply List.map_congr_left
    intro i hi
    have := List.mem_range.mp hi
    rw [h (i + 7) (by omega)]
  · simp only [List.map_cons, List.map_nil]
    rw [show w.1.length - 7 + 7 = w.1.length by omega]
/-- the heap holds the pure world; what nobody writes is told of the method's start -/
def mm_H (D : va_G) (cT : Nat → ClassId) (base : Nat) (ro : Nat → Nat) (s : State) (H : Heap) (w : mm_W) : Prop :=
  va_P D vwCl (mm_all cT base ro w) H ∧ 7 ≤ w.1.length ∧
  (∀ k, k < 7 → ((mm_nth w.1 k).1 = 4 ∧ va_T .int (ro k) (mm_nth w.1 k).2 (fun j => .int (w.2.1 k j)) (fun q => base ≤ q) s s.heap) ∨ ((mm_nth w.1 k).1 = 5 ∧ va_T .long (ro k) (mm_nth w.1 k).2 (fun j => .long (w.2.2.1 k j)) (fun q => base ≤ q) s s.heap)) ∧
  ∀ k, 7 ≤ k → (mm_nth w.1 k).1 ≠ 4 ∧ (mm_nth w.1 k).1 ≠ 5
theorem mm_H.ge {s : State} {H : Heap} (h : mm_H D cT base ro s H w) (h4 : (mm_nth w.1 k).1 ≠ 4) (h5 : (mm_nth w.1 k).1 ≠ 5) : 7 ≤ k := by
  rcases Nat.lt_or_ge k 7 with h1 | h1
  · rcases h.2.2.1 k h1 with ⟨q, -⟩ | ⟨q, -⟩
    · exact absurd q h4
    · exact absurd q h5
  · exact h1
theorem mm_H.at {s : State} {H : Heap} (h : mm_H D cT base ro s H w) (h4 : (mm_nth w.1 k).1 ≠ 4) (h5 : (mm_nth w.1 k).1 ≠ 5) (h9 : (mm_nth w.1 k).1 ≠ 99) : (mm_all cT base ro w)[k - 7]? = some (mm_ad base ro k, mm_cell cT (mm_ad base ro) w k) := mm_all_at (h.ge h4 h5) (mm_nth_lt h9)
theorem mm_H.set {s : State} {H H1 : Heap} (h : mm_H D cT base ro s H w) (ho : mm_off k w w') (h4 : (mm_nth w.1 k).1 ≠ 4) (h5 : (mm_nth w.1 k).1 ≠ 5) (h9 : (mm_nth w.1 k).1 ≠ 99) (hP : va_P D vwCl ((mm_all cT base ro w).set (k - 7) (mm_ad base ro k, mm_cell cT (mm_ad base ro) w' k)) H1) : mm_H D cT base ro s H1 w' := by
  have h7 := h.ge h4 h5
  rw [mm_all_set ho h7 (mm_nth_lt h9)] at hP
  refine ⟨hP, by rw [ho.1]; exact h.2.1, fun a ha => ?_, fun a ha => by rw [ho.1]; exact h.2.2.2 a ha⟩
  obtain ⟨e1, e2, -⟩ := ho.2 a (by omega)
  rw [ho.1, e1, e2]
  exact h.2.2.1 a ha
theorem mm_off_I (f : Nat → Int32) : mm_off k w (w.1, mm_uc w.2.1 k f, w.2.2) := ⟨rfl, fun _ ha => ⟨mm_uc_ne _ _ ha, rfl, rfl⟩⟩
theorem mm_off_J (f : Nat → Int64) : mm_off k w (w.1, w.2.1, mm_uc w.2.2.1 k f, w.2.2.2) := ⟨rfl, fun _ ha => ⟨rfl, mm_uc_ne _ _ ha, rfl⟩⟩
theorem mm_off_R (f : Nat → Option Nat) : mm_off k w (w.1, w.2.1, w.2.2.1, mm_uc w.2.2.2 k f) := ⟨rfl, fun _ ha => ⟨rfl, rfl, mm_uc_ne _ _ ha⟩⟩
theorem mm_range_set (n j : Nat) (g : Nat → Value) (v : Value) : ((List.range n).map g).set j v = (List.range n).map (fun i => if i = j then v else g i) := by
  apply List.ext_getElem?
  intro i
  by_cases hi : i = j
  · subst hi
    by_cases hn : i < n
    · rw [List.getElem?_set_self (by simpa using hn), List.getElem?_map, List.getElem?_range hn]
      simp
    · rw [List.getElem?_eq_none (by simpa using hn), List.getElem?_eq_none (by simpa using hn)]
  · rw [List.getElem?_set_ne (fun z => hi z.symm), List.getElem?_map, List.getElem?_map]
    by_cases hn : i < n
    · rw [List.getElem?_range hn]
      simp [hi]
    · rw [List.getElem?_eq_none (by simpa using hn)]
      rfl
/-- the locals -/
def mm_LH (ad : Nat → Nat) (ls : Array Slot) (nL : Nat) (L : mm_L) : Prop := ls.size = nL ∧ L.length = nL ∧ lv_wf ls ∧ ∀ j v, mm_get L j = some v → ls[j]? = some (.val (mm_cv ad v))
def mm_ll (ad : Nat → Nat) (L : mm_L) : List (Nat × Value) := (List.range L.length).filterMap fun j => (mm_get L j).map fun v => (j, mm_cv ad v)
theorem mm_get_len : ∀ {L : mm_L} {j : Nat} {v : Value}, mm_get L j = some v → j < L.length
  | [], _, _, h => by unfold mm_get at h; cases h
  | _ :: _, 0, _, _ => Nat.zero_lt_succ _
  | _ :: l, n + 1, v, h => Nat.succ_lt_succ (mm_get_len (L := l) (j := n) (v := v) h)
theorem mm_get_set : ∀ {L : mm_L} {i j : Nat} {x : Option Value} {v : Value}, mm_get (L.set i x) j = some v → (j = i ∧ x = some v) ∨ (j ≠ i ∧ mm_get L j = some v)
  | [], i, j, x, v, h => by simp [mm_get] at h
  | a :: l, 0, 0, x, v, h => Or.inl ⟨rfl, h⟩
  | a :: l, 0, n + 1, x, v, h => Or.inr ⟨by omega, h⟩
  | a :: l, m + 1, 0, x, v, h => Or.inr ⟨by omega, h⟩
  | a :: l, m + 1, n + 1, x, v, h => by
    rcases mm_get_set (L := l) (i := m) (j := n) (x := x) (v := v) h with ⟨e, q⟩ | ⟨e, q⟩
    · exact Or.inl ⟨by omega, q⟩
    · exact Or.inr ⟨by omega, q⟩
theorem mm_ll_mem {ad : Nat → Nat} {L : mm_L} {q : Nat × Value} (h : q ∈ mm_ll ad L) : ∃ v, mm_get L q.1 = some v ∧ q.2 = mm_cv ad v := by
  obtain ⟨j, -, hj⟩ := List.mem_filterMap.mp h
  obtain ⟨v, hv, rfl⟩ := Option.map_eq_some_iff.mp hj
  exact ⟨v, hv, rfl⟩
theorem mm_ll_in {ad : Nat → Nat} {L : mm_L} {j : Nat} {v : Value} (h : mm_get L j = some v) : (j, mm_cv ad v) ∈ mm_ll ad L :=
  List.mem_filterMap.mpr ⟨j, List.mem_range.mpr (mm_get_len h), by rw [h]; rfl⟩
theorem mm_LH.has {ad : Nat → Nat} {ls : Array Slot} {nL : Nat} {L : mm_L} (h : mm_LH ad ls nL L) : lv_has ls nL (mm_ll ad L) := ⟨h.1, h.2.2.1, fun q hq => by
  obtain ⟨v, h1, h2⟩ := mm_ll_mem hq
  rw [h2]
  exact h.2.2.2 _ _ h1⟩
theorem mm_clr_len (L : mm_L) (i : Nat) : (mm_clr L i).length = L.length := by
  unfold mm_clr
  cases i with
  | zero => rfl
  | succ j =>
    simp only
    split
    · rename_i v _
      cases Nat.beq v.category 2 <;> simp
    · rfl
theorem mm_clr_get {L : mm_L} {i j : Nat} {v : Value} (h : mm_get (mm_clr L i) j = some v) : mm_get L j = some v ∧ ¬ (j + 1 = i ∧ v.category = 2) := by
  unfold mm_clr at h
  cases i with
  | zero => exact ⟨h, by omega⟩
  | succ n =>
    simp only at h
    cases hn : mm_get L n with
    | none =>
      rw [hn] at h
      refine ⟨h, fun z => ?_⟩
      obtain rfl : j = n := by omega
      rw [hn] at h
      cases h
    | some u =>
      rw [hn] at h
      cases hc : Nat.beq u.category 2 with
      | true =>
        simp only [hc, cond_true] at h
        rcases mm_get_set h with ⟨-, q⟩ | ⟨e, q⟩
        · cases q
        · exact ⟨q, fun z => e (by omega)⟩
      | false =>
        simp only [hc, cond_false] at h
        refine ⟨h, fun z => ?_⟩
        obtain rfl : j = n := by omega
        rw [hn] at h
        cases h
        rw [z.2] at hc
        cases hc
theorem mm_set1_ok {ad : Nat → Nat} {ls ls' : Array Slot} {nL i : Nat} {L L1 : mm_L} {v : Value} (h : mm_LH ad ls nL L) (hs : mm_set1 L i v = some L1)
    (h' : lv_has ls' nL ((i, mm_cv ad v) :: (mm_ll ad L).filter (fun q => !(q.1 == i) && !(q.1 + 1 == i && q.2.category == 2)))) : mm_LH ad ls' nL L1 := by
  unfold mm_set1 at hs
  cases hb : Nat.blt i L.length with
  | false => rw [hb] at hs; cases hs
  | true =>
    rw [hb] at hs
    cases hs
    refine ⟨h'.1, by simp [mm_clr_len, h.2.1], h'.2.1, fun j u hu => ?_⟩
    rcases mm_get_set hu with ⟨rfl, q⟩ | ⟨e, q⟩
    · cases q
      exact h'.2.2 (j, mm_cv ad v) List.mem_cons_self
    · obtain ⟨q1, q2⟩ := mm_clr_get q
      refine h'.2.2 (j, mm_cv ad u) (List.mem_cons_of_mem _ (List.mem_filter.mpr ⟨mm_ll_in q1, ?_⟩))
      simp only [mm_cv_cat]
      simp [e]
      by_cases z : j + 1 = i
      · exact Or.inr (fun z2 => q2 ⟨z, z2⟩)
      · exact Or.inl z
theorem mm_set2_ok {ad : Nat → Nat} {ls ls' : Array Slot} {nL i : Nat} {L L1 : mm_L} {v : Value} (h : mm_LH ad ls nL L) (hs : mm_set2 L i v = some L1)
    (h' : lv_has ls' nL ((i, mm_cv ad v) :: (mm_ll ad L).filter (fun q => !(q.1 == i) && (!(q.1 == i + 1) && !(q.1 + 1 == i && q.2.category == 2))))) : mm_LH ad ls' nL L1 := by
  unfold mm_set2 at hs
  cases hb : Nat.blt (i + 1) L.length with
  | false => rw [hb] at hs; cases hs
  | true =>
    rw [hb] at hs
    cases hs
    refine ⟨h'.1, by simp [mm_clr_len, h.2.1], h'.2.1, fun j u hu => ?_⟩
    rcases mm_get_set hu with ⟨-, q⟩ | ⟨e0, q0⟩
    · cases q
    rcases mm_get_set q0 with ⟨rfl, q⟩ | ⟨e, q⟩
    · cases q
      exact h'.2.2 (j, mm_cv ad v) List.mem_cons_self
    · obtain ⟨q1, q2⟩ := mm_clr_get q
      refine h'.2.2 (j, mm_cv ad u) (List.mem_cons_of_mem _ (List.mem_filter.mpr ⟨mm_ll_in q1, ?_⟩))
      simp only [mm_cv_cat]
      simp [e, e0]
      by_cases z : j + 1 = i
      · exact Or.inr (fun z2 => q2 ⟨z, z2⟩)
      · exact Or.inl z
theorem mm_set1_lt {L L1 : mm_L} {i : Nat} {v : Value} (hs : mm_set1 L i v = some L1) : i < L.length := by
  unfold mm_set1 at hs
  cases hb : Nat.blt i L.length with
  | false => rw [hb] at hs; cases hs
  | true => exact Nat.le_of_ble_eq_true hb
theorem mm_set2_lt {L L1 : mm_L} {i : Nat} {v : Value} (hs : mm_set2 L i v = some L1) : i + 1 < L.length := by
  unfold mm_set2 at hs
  cases hb : Nat.blt (i + 1) L.length with
  | false => rw [hb] at hs; cases hs
  | true => exact Nat.le_of_ble_eq_true hb
end MMW
end
section
/-! each straight instruction of the pure machine is one of the machine over the heap that holds the pure world -/
def mm_lyL : List (List Nat) := [[360, 362, 364, 366, 368], [220, 222, 224, 226, 228], [287, 289, 291, 293, 295, 297, 299, 301, 303, 305, 307, 309, 311], [342, 344, 346], [110, 112], [126, 128, 130, 132], [324, 326, 328, 330], [247, 249, 251, 253, 255, 257, 259, 261, 263, 265], [175, 177, 179, 181, 183], [198, 200, 202, 204, 206], [148, 150, 152, 154, 156, 158, 160], [382, 384, 386, 388, 390, 392, 394, 396, 398, 400, 402], [1241, 1243, 1245, 1247, 1249, 1251, 1253, 1255, 1257, 1259, 1261, 1263, 1265, 1267, 1269, 1271, 1273, 1275, 1277, 1279, 1281, 1283, 1285, 1287, 1289, 1291, 1293, 1295, 1297, 1299, 1301, 1303, 1305, 1307, 1309, 1311, 1313, 1315, 1317, 1319, 1321, 1323, 1325, 1327, 1329, 1331, 1333, 1335]]
def mm_rg (n : Nat) (f : Nat → Prop) : Prop := ∀ k ∈ List.range n, f k
theorem mm_ly_ok : ∀ ci ∈ List.range 13, ∀ k ∈ List.range (mm_n ci), lw_tbl[((mm_lyL.getD ci []).getD k 0)]? = some (u_lay (mm_R ci) (mm_T ci) k) ∧ goodWord (u_lay (mm_R ci) (mm_T ci) k) = true := by decide +kernel
theorem mm_uws {ci : Nat} (h : ci < 13) : ∀ w ∈ u_ws (mm_R ci) (mm_T ci) (mm_n ci), w ∈ mm_wds := by
  intro w hw
  obtain ⟨k, hk, rfl⟩ := List.mem_map.mp hw
  obtain ⟨h1, h2⟩ := mm_ly_ok ci (List.mem_range.mpr h) k hk
  exact mm_wds_in h1 h2
theorem mm_vwCl {ci : Nat} (h : ci < 13) : vwCl[ci]? = some (mm_R ci, mm_T ci, mm_n ci) := by
  rcases (show ci = 0 ∨ ci = 1 ∨ ci = 2 ∨ ci = 3 ∨ ci = 4 ∨ ci = 5 ∨ ci = 6 ∨ ci = 7 ∨ ci = 8 ∨ ci = 9 ∨ ci = 10 ∨ ci = 11 ∨ ci = 12 by omega) with rfl | rfl | rfl | rfl | rfl | rfl | rfl | rfl | rfl | rfl | rfl | rfl | rfl <;> rfl
theorem mm_tyk {ci : Nat} (h : ci < 13) : ∀ k, k < mm_n ci → parseFieldDescriptor (mm_T ci k).2.2.1 = some (mm_ty ci k) := by
  rcases (show ci = 0 ∨ ci = 1 ∨ ci = 2 ∨ ci = 3 ∨ ci = 4 ∨ ci = 5 ∨ ci = 6 ∨ ci = 7 ∨ ci = 8 ∨ ci = 9 ∨ ci = 10 ∨ ci = 11 ∨ ci = 12 by omega) with rfl | rfl | rfl | rfl | rfl | rfl | rfl | rfl | rfl | rfl | rfl | rfl | rfl
  · exact tyX0_ok
  · exact tyX1_ok
  · exact tyX2_ok
  · exact tyX3_ok
  · exact tyX4_ok
  · exact tyX5_ok
  · exact tyX6_ok
  · exact tyX7_ok
  · exact tyX8_ok
  · exact tyX9_ok
  · exact tyX10_ok
  · exact tyX11_ok
  · exact tyX12_ok
theorem mm_nmk {ci : Nat} (h : ci < 13) : ∀ a, a < mm_n ci → ∀ b, b < mm_n ci → a ≠ b → (mm_T ci a).2.1 ≠ (mm_T ci b).2.1 := by
  rcases (show ci = 0 ∨ ci = 1 ∨ ci = 2 ∨ ci = 3 ∨ ci = 4 ∨ ci = 5 ∨ ci = 6 ∨ ci = 7 ∨ ci = 8 ∨ ci = 9 ∨ ci = 10 ∨ ci = 11 ∨ ci = 12 by omega) with rfl | rfl | rfl | rfl | rfl | rfl | rfl | rfl | rfl | rfl | rfl | rfl | rfl
  · exact nmX0
  · exact nmX1
  · exact nmX2
  · exact nmX3
  · exact nmX4
  · exact nmX5
  · exact nmX6
  · exact nmX7
  · exact nmX8
  · exact nmX9
  · exact nmX10
  · exact nmX11
  · exact nmX12
def mm_zv (ty : FieldType) : Value := match ty with
  | .int => .int 0
  | .boolean => .int 0
  | .long => .long 0
  | _ => .null
theorem mm_zv_ok : ∀ ci ∈ List.range 13, ∀ k ∈ List.range (mm_n ci), defaultValue (mm_ty ci k) = mm_zv (mm_ty ci k) := by decide +kernel
theorem mm_n48 {ci : Nat} (h : ci < 13) : mm_n ci ≤ 48 := by
  rcases (show ci = 0 ∨ ci = 1 ∨ ci = 2 ∨ ci = 3 ∨ ci = 4 ∨ ci = 5 ∨ ci = 6 ∨ ci = 7 ∨ ci = 8 ∨ ci = 9 ∨ ci = 10 ∨ ci = 11 ∨ ci = 12 by omega) with rfl | rfl | rfl | rfl | rfl | rfl | rfl | rfl | rfl | rfl | rfl | rfl | rfl <;> decide
def mm_tys (cT : Nat → ClassId) : List (ClassId × FieldType) := [(cT 0, .int), (cT 1, .boolean), (cT 2, .long), (cT 3, .object RX8)]
def mm_A (base : Nat) : Nat → Prop := fun q => base ≤ q
def mm_sts (base : Nat) (ro : Nat → Nat) (U : State) : Prop := ∀ q ∈ mm_staL, va_Z q.2.2.2.1 q.2.2.2.2.1 q.2.2.2.2.2 (.ref (ro q.2.2.1)) (mm_A base) U U.heap
def mm_nests (U : State) : Prop := ∀ w ∈ lw_tbl, mm_nest w = true → va_Nw w U
/-- what is fixed in a method's run -/
def mm_Cx (p : Program) (R : Room) (s : State) (m : MethodId) (args : Array Value) (meth : Method) (c : Code) (o : Nat) (ini : Bool) (cc : ByteArray) (nL : Nat) (D : va_G) (cT : Nat → ClassId) (base : Nat) (ro : Nat → Nat) : Prop :=
  p.tables.exec = Jvm.exec ∧ c.code = cc ∧ c.maxLocals = nL ∧ s.vm.findClass (mm_R o) = some m.cls ∧ (∀ w ∈ mm_wds, w.before args s = true) ∧ mm_nests s ∧ (ini = true → meth.name = "<init>") ∧ va_K D vwCl (mm_tys cT) s ∧ mm_sts base ro s ∧ va_AO RX8 s ∧ 1 ≤ R.frames ∧ 100 ≤ R.locals
/-- a point of it: the heap holds the pure world w; w0 was the method's first -/
def mm_Pt (D : va_G) (cT : Nat → ClassId) (base : Nat) (ro : Nat → Nat) (s : State) (w0 : mm_W) (H : Heap) (locs : List Loc) (cells slots : Nat) (w : mm_W) : Prop :=
  mm_H D cT base ro s H w ∧ va_S (mm_A base) s.heap H locs ∧ w0.1.length + cells = w.1.length ∧ mm_sl w0.1 + slots = mm_sl w.1 ∧ (s.heap.size + 7 = base + w0.1.length ∧ 7 ≤ w0.1.length)
theorem mm_c1 {α : Type} {b : Bool} {x y : α} (h : cond b (some x) none = some y) : b = true ∧ x = y := by
  cases b
  · cases h
  · exact ⟨rfl, Option.some.inj h⟩
theorem mm_c2' {α : Type} {b : Bool} {x : Option α} {y : α} (h : cond b x none = some y) : b = true ∧ x = some y := by
  cases b
  · cases h
  · exact ⟨rfl, h⟩
section MMS
variable {p : Program} {l : Launch} {e : Env} {R : Room} {s : State} {m : MethodId} {args : Array Value} {below : List Frame} {meth : Method} {c : Code} {H : Heap} {locs : List Loc} {cells slots : Nat} {Q : State → Prop}
variable {cc : ByteArray} {pc len nL o : Nat} {ini : Bool} {ls : Array Slot} {L L' : mm_L} {st st' : List Value} {w w' w0 : mm_W} {D : va_G} {cT : Nat → ClassId} {base : Nat} {ro : Nat → Nat} {P : Prop} {j : Instr}
/-- what goes on behind an instruction -/
def mm_KK (p : Program) (l : Launch) (e : Env) (R : Room) (s : State) (m : MethodId) (args : Array Value) (below : List Frame) (meth : Method) (c : Code) (Q : State → Prop) (nL : Nat) (D : va_G) (cT : Nat → ClassId) (base : Nat) (ro : Nat → Nat) (w0 : mm_W) (pc : Nat) (L : mm_L) (st : List Value) (w : mm_W) : Prop :=
  ∀ (H : Heap) (locs : List Loc) (cells slots : Nat) (ls : Array Slot), mm_LH (mm_ad base ro) ls nL L → mm_Pt D cT base ro s w0 H locs cells slots w → W p l e R s m args below meth c H locs cells slots Q (F0 m pc ls (st.map (mm_cv (mm_ad base ro))))
theorem mm_Cx.has (C : mm_Cx p R s m args meth c o ini cc nL D cT base ro) {n : Nat} {x : Jvm.Cond} (h : lw_tbl[n]? = some x) (hg : goodWord x = true) : x.before args s = true := C.2.2.2.2.1 x (mm_wds_in h hg)
theorem mm_Pt.at (h : mm_Pt D cT base ro s w0 H locs cells slots w) {k : Nat} (h4 : (mm_nth w.1 k).1 ≠ 4) (h5 : (mm_nth w.1 k).1 ≠ 5) (h9 : (mm_nth w.1 k).1 ≠ 99) : (mm_all cT base ro w)[k - 7]? = some (mm_ad base ro k, mm_cell cT (mm_ad base ro) w k) := h.1.at h4 h5 h9
theorem mm_Pt.sets (h : mm_Pt D cT base ro s w0 H locs cells slots w) {k : Nat} {H1 : Heap} {locs1 : List Loc} {ce : va_E} (ho : mm_off k w w') (h4 : (mm_nth w.1 k).1 ≠ 4) (h5 : (mm_nth w.1 k).1 ≠ 5) (h9 : (mm_nth w.1 k).1 ≠ 99) (hP : va_P D vwCl ((mm_all cT base ro w).set (k - 7) (mm_ad base ro k, ce)) H1) (hc : ce = mm_cell cT (mm_ad base ro) w' k) (hS : va_S (mm_A base) s.heap H1 locs1) : mm_Pt D cT base ro s w0 H1 locs1 cells slots w' := by
  subst hc
  exact ⟨h.1.set ho h4 h5 h9 hP, hS, by rw [ho.1]; exact h.2.2.1, by rw [ho.1]; exact h.2.2.2.1, h.2.2.2.2⟩
theorem mm_Pt.ro4 (h : mm_Pt D cT base ro s w0 H locs cells slots w) {k : Nat} (h4 : (mm_nth w.1 k).1 = 4) : mm_ad base ro k = ro k ∧ va_T .int (ro k) (mm_nth w.1 k).2 (fun j => .int (w.2.1 k j)) (mm_A base) s s.heap := by
  rcases Nat.lt_or_ge k 7 with h1 | h1
  · refine ⟨if_pos h1, ?_⟩
    rcases h.1.2.2.1 k h1 with ⟨-, q⟩ | ⟨q, -⟩
    · exact q
    · rw [h4] at q; cases q
  · exact absurd h4 (h.1.2.2.2 k h1).1
theorem mm_Pt.ro5 (h : mm_Pt D cT base ro s w0 H locs cells slots w) {k : Nat} (h5 : (mm_nth w.1 k).1 = 5) : mm_ad base ro k = ro k ∧ va_T .long (ro k) (mm_nth w.1 k).2 (fun j => .long (w.2.2.1 k j)) (mm_A base) s s.heap := by
  rcases Nat.lt_or_ge k 7 with h1 | h1
  · refine ⟨if_pos h1, ?_⟩
    rcases h.1.2.2.1 k h1 with ⟨q, -⟩ | ⟨-, q⟩
    · rw [h5] at q; cases q
    · exact q
  · exact absurd h5 (h.1.2.2.2 k h1).2
theorem mm_k_iconst {n : Int} (C : mm_Cx p R s m args meth c o ini cc nL D cT base ro) (hl : mm_LH (mm_ad base ro) ls nL L) (hp : mm_Pt D cT base ro s w0 H locs cells slots w) (hroom : w'.1.length ≤ w0.1.length + R.cells ∧ mm_sl w'.1 ≤ mm_sl w0.1 + R.slots) (hj : mm_seq j L st w = some (P, L', st', w')) (hP : P) (kk : mm_KK p l e R s m args below meth c Q nL D cT base ro w0 (pc + len) L' st' w') (hd : decode cc pc = .ok (.iconst n, len)) (hr : mm_res o ini (.iconst n) len = some j) : W p l e R s m args below meth c H locs cells slots Q (F0 m pc ls (st.map (mm_cv (mm_ad base ro)))) := by
  obtain ⟨hb1, rfl⟩ := mm_c1 (show cond (Nat.beq len 1) (some (.iconst n)) none = some j from hr)
  obtain rfl := Nat.eq_of_beq_eq_true hb1
  cases hj
  exact lv_iconst C.1 C.2.1 hd rfl (kk _ _ _ _ _ hl hp)
theorem mm_k_bipush {n : Int} (C : mm_Cx p R s m args meth c o ini cc nL D cT base ro) (hl : mm_LH (mm_ad base ro) ls nL L) (hp : mm_Pt D cT base ro s w0 H locs cells slots w) (hroom : w'.1.length ≤ w0.1.length + R.cells ∧ mm_sl w'.1 ≤ mm_sl w0.1 + R.slots) (hj : mm_seq j L st w = some (P, L', st', w')) (hP : P) (kk : mm_KK p l e R s m args below meth c Q nL D cT base ro w0 (pc + len) L' st' w') (hd : decode cc pc = .ok (.bipush n, len)) (hr : mm_res o ini (.bipush n) len = some j) : W p l e R s m args below meth c H locs cells slots Q (F0 m pc ls (st.map (mm_cv (mm_ad base ro)))) := by
  obtain ⟨hb1, hr⟩ := mm_c2' (show cond (Nat.beq len 2) (cond (decide ((Int8.ofInt n).toInt32 = Int32.ofInt n)) (some (Instr.iconst n)) none) none = some j from hr)
  obtain rfl := Nat.eq_of_beq_eq_true hb1
  obtain ⟨hb2, rfl⟩ := mm_c1 hr
  cases hj
  exact lv_bipush C.1 C.2.1 hd (of_decide_eq_true hb2) (kk _ _ _ _ _ hl hp)
theorem mm_k_sipush {n : Int} (C : mm_Cx p R s m args meth c o ini cc nL D cT base ro) (hl : mm_LH (mm_ad base ro) ls nL L) (hp : mm_Pt D cT base ro s w0 H locs cells slots w) (hroom : w'.1.length ≤ w0.1.length + R.cells ∧ mm_sl w'.1 ≤ mm_sl w0.1 + R.slots) (hj : mm_seq j L st w = some (P, L', st', w')) (hP : P) (kk : mm_KK p l e R s m args below meth c Q nL D cT base ro w0 (pc + len) L' st' w') (hd : decode cc pc = .ok (.sipush n, len)) (hr : mm_res o ini (.sipush n) len = some j) : W p l e R s m args below meth c H locs cells slots Q (F0 m pc ls (st.map (mm_cv (mm_ad base ro)))) := by
  obtain ⟨hb1, hr⟩ := mm_c2' (show cond (Nat.beq len 3) (cond (decide ((Int16.ofInt n).toInt32 = Int32.ofInt n)) (some (Instr.iconst n)) none) none = some j from hr)
  obtain rfl := Nat.eq_of_beq_eq_true hb1
  obtain ⟨hb2, rfl⟩ := mm_c1 hr
  cases hj
  exact lv_sipush C.1 C.2.1 hd (of_decide_eq_true hb2) (kk _ _ _ _ _ hl hp)
theorem mm_k_ldc {x : Nat} (C : mm_Cx p R s m args meth c o ini cc nL D cT base ro) (hl : mm_LH (mm_ad base ro) ls nL L) (hp : mm_Pt D cT base ro s w0 H locs cells slots w) (hroom : w'.1.length ≤ w0.1.length + R.cells ∧ mm_sl w'.1 ≤ mm_sl w0.1 + R.slots) (hj : mm_seq j L st w = some (P, L', st', w')) (hP : P) (kk : mm_KK p l e R s m args below meth c Q nL D cT base ro w0 (pc + len) L' st' w') (hd : decode cc pc = .ok (.ldc x, len)) (hr : mm_res o ini (.ldc x) len = some j) : W p l e R s m args below meth c H locs cells slots Q (F0 m pc ls (st.map (mm_cv (mm_ad base ro)))) := by
  obtain ⟨hb1, hr⟩ := mm_c2' (show cond (Nat.beq len 2) ((mm_look mm_conL o x).map Instr.iconst) none = some j from hr)
  obtain rfl := Nat.eq_of_beq_eq_true hb1
  obtain ⟨z, hz, rfl⟩ := Option.map_eq_some_iff.mp hr
  obtain ⟨n, hn⟩ := mm_look_in hz
  cases hj
  exact lv_ldc C.1 C.2.1 C.2.2.2.1 (C.has (mm_con_ok _ hn) rfl) hd (kk _ _ _ _ _ hl hp)
theorem mm_k_ldc_w {x : Nat} (C : mm_Cx p R s m args meth c o ini cc nL D cT base ro) (hl : mm_LH (mm_ad base ro) ls nL L) (hp : mm_Pt D cT base ro s w0 H locs cells slots w) (hroom : w'.1.length ≤ w0.1.length + R.cells ∧ mm_sl w'.1 ≤ mm_sl w0.1 + R.slots) (hj : mm_seq j L st w = some (P, L', st', w')) (hP : P) (kk : mm_KK p l e R s m args below meth c Q nL D cT base ro w0 (pc + len) L' st' w') (hd : decode cc pc = .ok (.ldc_w x, len)) (hr : mm_res o ini (.ldc_w x) len = some j) : W p l e R s m args below meth c H locs cells slots Q (F0 m pc ls (st.map (mm_cv (mm_ad base ro)))) := by
  obtain ⟨hb1, hr⟩ := mm_c2' (show cond (Nat.beq len 3) ((mm_look mm_conL o x).map Instr.iconst) none = some j from hr)
  obtain rfl := Nat.eq_of_beq_eq_true hb1
  obtain ⟨z, hz, rfl⟩ := Option.map_eq_some_iff.mp hr
  obtain ⟨n, hn⟩ := mm_look_in hz
  cases hj
  exact lv_ldcw C.1 C.2.1 C.2.2.2.1 (C.has (mm_con_ok _ hn) rfl) hd (kk _ _ _ _ _ hl hp)
theorem mm_k_lconst {n : Fin 2} (C : mm_Cx p R s m args meth c o ini cc nL D cT base ro) (hl : mm_LH (mm_ad base ro) ls nL L) (hp : mm_Pt D cT base ro s w0 H locs cells slots w) (hroom : w'.1.length ≤ w0.1.length + R.cells ∧ mm_sl w'.1 ≤ mm_sl w0.1 + R.slots) (hj : mm_seq j L st w = some (P, L', st', w')) (hP : P) (kk : mm_KK p l e R s m args below meth c Q nL D cT base ro w0 (pc + len) L' st' w') (hd : decode cc pc = .ok (.lconst n, len)) (hr : mm_res o ini (.lconst n) len = some j) : W p l e R s m args below meth c H locs cells slots Q (F0 m pc ls (st.map (mm_cv (mm_ad base ro)))) := by
  obtain ⟨hb1, hr⟩ := mm_c2' (show cond (Nat.beq len 1) (cond (decide (Int64.ofNat (n : Nat) = Int64.ofInt ((n : Nat) : Int))) (some (Instr.goto_w ((n : Nat) : Int))) none) none = some j from hr)
  obtain rfl := Nat.eq_of_beq_eq_true hb1
  obtain ⟨hb2, rfl⟩ := mm_c1 hr
  cases hj
  exact lv_lconst C.1 C.2.1 hd (of_decide_eq_true hb2) (kk _ _ _ _ _ hl hp)
theorem mm_k_ldc2_w {x : Nat} (C : mm_Cx p R s m args meth c o ini cc nL D cT base ro) (hl : mm_LH (mm_ad base ro) ls nL L) (hp : mm_Pt D cT base ro s w0 H locs cells slots w) (hroom : w'.1.length ≤ w0.1.length + R.cells ∧ mm_sl w'.1 ≤ mm_sl w0.1 + R.slots) (hj : mm_seq j L st w = some (P, L', st', w')) (hP : P) (kk : mm_KK p l e R s m args below meth c Q nL D cT base ro w0 (pc + len) L' st' w') (hd : decode cc pc = .ok (.ldc2_w x, len)) (hr : mm_res o ini (.ldc2_w x) len = some j) : W p l e R s m args below meth c H locs cells slots Q (F0 m pc ls (st.map (mm_cv (mm_ad base ro)))) := by
  obtain ⟨hb1, hr⟩ := mm_c2' (show cond (Nat.beq len 3) ((mm_look mm_lonL o x).map Instr.goto_w) none = some j from hr)
  obtain rfl := Nat.eq_of_beq_eq_true hb1
  obtain ⟨z, hz, rfl⟩ := Option.map_eq_some_iff.mp hr
  obtain ⟨n, hn⟩ := mm_look_in hz
  cases hj
  exact lv_ldc2 C.1 C.2.1 C.2.2.2.1 (C.has (mm_lon_ok _ hn) rfl) hd (kk _ _ _ _ _ hl hp)
theorem mm_k_iload_n {n : Fin 4} (C : mm_Cx p R s m args meth c o ini cc nL D cT base ro) (hl : mm_LH (mm_ad base ro) ls nL L) (hp : mm_Pt D cT base ro s w0 H locs cells slots w) (hroom : w'.1.length ≤ w0.1.length + R.cells ∧ mm_sl w'.1 ≤ mm_sl w0.1 + R.slots) (hj : mm_seq j L st w = some (P, L', st', w')) (hP : P) (kk : mm_KK p l e R s m args below meth c Q nL D cT base ro w0 (pc + len) L' st' w') (hd : decode cc pc = .ok (.iload_n n, len)) (hr : mm_res o ini (.iload_n n) len = some j) : W p l e R s m args below meth c H locs cells slots Q (F0 m pc ls (st.map (mm_cv (mm_ad base ro)))) := by
  obtain ⟨hb1, rfl⟩ := mm_c1 (show cond (Nat.beq len 1) (some (Instr.iload n)) none = some j from hr)
  obtain rfl := Nat.eq_of_beq_eq_true hb1
  obtain ⟨x, hx, he⟩ := mm_ldi_inv hj
  cases he
  exact lv_iload_n C.1 C.2.1 hd rfl (hl.2.2.2 _ _ hx) (kk _ _ _ _ _ hl hp)
theorem mm_k_iload {n : Nat} (C : mm_Cx p R s m args meth c o ini cc nL D cT base ro) (hl : mm_LH (mm_ad base ro) ls nL L) (hp : mm_Pt D cT base ro s w0 H locs cells slots w) (hroom : w'.1.length ≤ w0.1.length + R.cells ∧ mm_sl w'.1 ≤ mm_sl w0.1 + R.slots) (hj : mm_seq j L st w = some (P, L', st', w')) (hP : P) (kk : mm_KK p l e R s m args below meth c Q nL D cT base ro w0 (pc + len) L' st' w') (hd : decode cc pc = .ok (.iload n, len)) (hr : mm_res o ini (.iload n) len = some j) : W p l e R s m args below meth c H locs cells slots Q (F0 m pc ls (st.map (mm_cv (mm_ad base ro)))) := by
  obtain ⟨hb1, rfl⟩ := mm_c1 (show cond (Nat.beq len 2) (some (Instr.iload n)) none = some j from hr)
  obtain rfl := Nat.eq_of_beq_eq_true hb1
  obtain ⟨x, hx, he⟩ := mm_ldi_inv hj
  cases he
  exact lv_iload C.1 C.2.1 hd (hl.2.2.2 _ _ hx) (kk _ _ _ _ _ hl hp)
theorem mm_k_lload_n {n : Fin 4} (C : mm_Cx p R s m args meth c o ini cc nL D cT base ro) (hl : mm_LH (mm_ad base ro) ls nL L) (hp : mm_Pt D cT base ro s w0 H locs cells slots w) (hroom : w'.1.length ≤ w0.1.length + R.cells ∧ mm_sl w'.1 ≤ mm_sl w0.1 + R.slots) (hj : mm_seq j L st w = some (P, L', st', w')) (hP : P) (kk : mm_KK p l e R s m args below meth c Q nL D cT base ro w0 (pc + len) L' st' w') (hd : decode cc pc = .ok (.lload_n n, len)) (hr : mm_res o ini (.lload_n n) len = some j) : W p l e R s m args below meth c H locs cells slots Q (F0 m pc ls (st.map (mm_cv (mm_ad base ro)))) := by
  obtain ⟨hb1, rfl⟩ := mm_c1 (show cond (Nat.beq len 1) (some (Instr.lload n)) none = some j from hr)
  obtain rfl := Nat.eq_of_beq_eq_true hb1
  obtain ⟨x, hx, he⟩ := mm_ldl_inv hj
  cases he
  exact lv_lload_n C.1 C.2.1 hd rfl (hl.2.2.2 _ _ hx) (kk _ _ _ _ _ hl hp)
theorem mm_k_lload {n : Nat} (C : mm_Cx p R s m args meth c o ini cc nL D cT base ro) (hl : mm_LH (mm_ad base ro) ls nL L) (hp : mm_Pt D cT base ro s w0 H locs cells slots w) (hroom : w'.1.length ≤ w0.1.length + R.cells ∧ mm_sl w'.1 ≤ mm_sl w0.1 + R.slots) (hj : mm_seq j L st w = some (P, L', st', w')) (hP : P) (kk : mm_KK p l e R s m args below meth c Q nL D cT base ro w0 (pc + len) L' st' w') (hd : decode cc pc = .ok (.lload n, len)) (hr : mm_res o ini (.lload n) len = some j) : W p l e R s m args below meth c H locs cells slots Q (F0 m pc ls (st.map (mm_cv (mm_ad base ro)))) := by
  obtain ⟨hb1, rfl⟩ := mm_c1 (show cond (Nat.beq len 2) (some (Instr.lload n)) none = some j from hr)
  obtain rfl := Nat.eq_of_beq_eq_true hb1
  obtain ⟨x, hx, he⟩ := mm_ldl_inv hj
  cases he
  exact lv_lload C.1 C.2.1 hd (hl.2.2.2 _ _ hx) (kk _ _ _ _ _ hl hp)
theorem mm_k_aload_n {n : Fin 4} (C : mm_Cx p R s m args meth c o ini cc nL D cT base ro) (hl : mm_LH (mm_ad base ro) ls nL L) (hp : mm_Pt D cT base ro s w0 H locs cells slots w) (hroom : w'.1.length ≤ w0.1.length + R.cells ∧ mm_sl w'.1 ≤ mm_sl w0.1 + R.slots) (hj : mm_seq j L st w = some (P, L', st', w')) (hP : P) (kk : mm_KK p l e R s m args below meth c Q nL D cT base ro w0 (pc + len) L' st' w') (hd : decode cc pc = .ok (.aload_n n, len)) (hr : mm_res o ini (.aload_n n) len = some j) : W p l e R s m args below meth c H locs cells slots Q (F0 m pc ls (st.map (mm_cv (mm_ad base ro)))) := by
  obtain ⟨hb1, rfl⟩ := mm_c1 (show cond (Nat.beq len 1) (some (Instr.aload n)) none = some j from hr)
  obtain rfl := Nat.eq_of_beq_eq_true hb1
  rcases mm_lda_inv hj with ⟨x, hx, he⟩ | ⟨hx, he⟩
  · cases he
    exact lv_aload_n C.1 C.2.1 hd rfl (hl.2.2.2 _ _ hx) (kk _ _ _ _ _ hl hp)
  · cases he
    exact lv_aload_nN C.1 C.2.1 hd rfl (hl.2.2.2 _ _ hx) (kk _ _ _ _ _ hl hp)
theorem mm_k_aload {n : Nat} (C : mm_Cx p R s m args meth c o ini cc nL D cT base ro) (hl : mm_LH (mm_ad base ro) ls nL L) (hp : mm_Pt D cT base ro s w0 H locs cells slots w) (hroom : w'.1.length ≤ w0.1.length + R.cells ∧ mm_sl w'.1 ≤ mm_sl w0.1 + R.slots) (hj : mm_seq j L st w = some (P, L', st', w')) (hP : P) (kk : mm_KK p l e R s m args below meth c Q nL D cT base ro w0 (pc + len) L' st' w') (hd : decode cc pc = .ok (.aload n, len)) (hr : mm_res o ini (.aload n) len = some j) : W p l e R s m args below meth c H locs cells slots Q (F0 m pc ls (st.map (mm_cv (mm_ad base ro)))) := by
  obtain ⟨hb1, rfl⟩ := mm_c1 (show cond (Nat.beq len 2) (some (Instr.aload n)) none = some j from hr)
  obtain rfl := Nat.eq_of_beq_eq_true hb1
  rcases mm_lda_inv hj with ⟨x, hx, he⟩ | ⟨hx, he⟩
  · cases he
    exact lv_aload C.1 C.2.1 hd (hl.2.2.2 _ _ hx) (kk _ _ _ _ _ hl hp)
  · cases he
    exact lv_aloadN C.1 C.2.1 hd (hl.2.2.2 _ _ hx) (kk _ _ _ _ _ hl hp)
theorem mm_k_istore_n {n : Fin 4} (C : mm_Cx p R s m args meth c o ini cc nL D cT base ro) (hl : mm_LH (mm_ad base ro) ls nL L) (hp : mm_Pt D cT base ro s w0 H locs cells slots w) (hroom : w'.1.length ≤ w0.1.length + R.cells ∧ mm_sl w'.1 ≤ mm_sl w0.1 + R.slots) (hj : mm_seq j L st w = some (P, L', st', w')) (hP : P) (kk : mm_KK p l e R s m args below meth c Q nL D cT base ro w0 (pc + len) L' st' w') (hd : decode cc pc = .ok (.istore_n n, len)) (hr : mm_res o ini (.istore_n n) len = some j) : W p l e R s m args below meth c H locs cells slots Q (F0 m pc ls (st.map (mm_cv (mm_ad base ro)))) := by
  obtain ⟨hb1, rfl⟩ := mm_c1 (show cond (Nat.beq len 1) (some (Instr.istore n)) none = some j from hr)
  obtain rfl := Nat.eq_of_beq_eq_true hb1
  obtain ⟨x, t, L1, rfl, hs, he⟩ := mm_sti_inv hj
  cases he
  have hi := mm_set1_lt hs
  rw [hl.2.1] at hi
  exact lv_istore_n C.1 C.2.1 hd rfl hl.has hi rfl (fun ls1 h1 => kk _ _ _ _ _ (mm_set1_ok hl hs h1) hp)
theorem mm_k_lstore_n {n : Fin 4} (C : mm_Cx p R s m args meth c o ini cc nL D cT base ro) (hl : mm_LH (mm_ad base ro) ls nL L) (hp : mm_Pt D cT base ro s w0 H locs cells slots w) (hroom : w'.1.length ≤ w0.1.length + R.cells ∧ mm_sl w'.1 ≤ mm_sl w0.1 + R.slots) (hj : mm_seq j L st w = some (P, L', st', w')) (hP : P) (kk : mm_KK p l e R s m args below meth c Q nL D cT base ro w0 (pc + len) L' st' w') (hd : decode cc pc = .ok (.lstore_n n, len)) (hr : mm_res o ini (.lstore_n n) len = some j) : W p l e R s m args below meth c H locs cells slots Q (F0 m pc ls (st.map (mm_cv (mm_ad base ro)))) := by
  obtain ⟨hb1, rfl⟩ := mm_c1 (show cond (Nat.beq len 1) (some (Instr.lstore n)) none = some j from hr)
  obtain rfl := Nat.eq_of_beq_eq_true hb1
  obtain ⟨x, t, L1, rfl, hs, he⟩ := mm_stl_inv hj
  cases he
  have hi := mm_set2_lt hs
  rw [hl.2.1] at hi
  exact lv_lstore_n C.1 C.2.1 hd rfl hl.has hi rfl (fun ls1 h1 => kk _ _ _ _ _ (mm_set2_ok hl hs h1) hp)
theorem mm_k_astore_n {n : Fin 4} (C : mm_Cx p R s m args meth c o ini cc nL D cT base ro) (hl : mm_LH (mm_ad base ro) ls nL L) (hp : mm_Pt D cT base ro s w0 H locs cells slots w) (hroom : w'.1.length ≤ w0.1.length + R.cells ∧ mm_sl w'.1 ≤ mm_sl w0.1 + R.slots) (hj : mm_seq j L st w = some (P, L', st', w')) (hP : P) (kk : mm_KK p l e R s m args below meth c Q nL D cT base ro w0 (pc + len) L' st' w') (hd : decode cc pc = .ok (.astore_n n, len)) (hr : mm_res o ini (.astore_n n) len = some j) : W p l e R s m args below meth c H locs cells slots Q (F0 m pc ls (st.map (mm_cv (mm_ad base ro)))) := by
  obtain ⟨hb1, rfl⟩ := mm_c1 (show cond (Nat.beq len 1) (some (Instr.astore n)) none = some j from hr)
  obtain rfl := Nat.eq_of_beq_eq_true hb1
  rcases mm_sta_inv hj with ⟨x, t, L1, rfl, hs, he⟩ | ⟨t, L1, rfl, hs, he⟩
  · cases he
    have hi := mm_set1_lt hs
    rw [hl.2.1] at hi
    exact lv_astore_n C.1 C.2.1 hd rfl hl.has hi rfl (fun ls1 h1 => kk _ _ _ _ _ (mm_set1_ok hl hs h1) hp)
  · cases he
    have hi := mm_set1_lt hs
    rw [hl.2.1] at hi
    exact lv_astore_nN C.1 C.2.1 hd rfl hl.has hi rfl (fun ls1 h1 => kk _ _ _ _ _ (mm_set1_ok hl hs h1) hp)
theorem mm_k_istore {n : Nat} (C : mm_Cx p R s m args meth c o ini cc nL D cT base ro) (hl : mm_LH (mm_ad base ro) ls nL L) (hp : mm_Pt D cT base ro s w0 H locs cells slots w) (hroom : w'.1.length ≤ w0.1.length + R.cells ∧ mm_sl w'.1 ≤ mm_sl w0.1 + R.slots) (hj : mm_seq j L st w = some (P, L', st', w')) (hP : P) (kk : mm_KK p l e R s m args below meth c Q nL D cT base ro w0 (pc + len) L' st' w') (hd : decode cc pc = .ok (.istore n, len)) (hr : mm_res o ini (.istore n) len = some j) : W p l e R s m args below meth c H locs cells slots Q (F0 m pc ls (st.map (mm_cv (mm_ad base ro)))) := by
  obtain ⟨hb1, rfl⟩ := mm_c1 (show cond (Nat.beq len 2) (some (Instr.istore n)) none = some j from hr)
  obtain rfl := Nat.eq_of_beq_eq_true hb1
  obtain ⟨x, t, L1, rfl, hs, he⟩ := mm_sti_inv hj
  cases he
  have hi := mm_set1_lt hs
  rw [hl.2.1] at hi
  exact lv_istore C.1 C.2.1 hd hl.has hi rfl (fun ls1 h1 => kk _ _ _ _ _ (mm_set1_ok hl hs h1) hp)
theorem mm_k_lstore {n : Nat} (C : mm_Cx p R s m args meth c o ini cc nL D cT base ro) (hl : mm_LH (mm_ad base ro) ls nL L) (hp : mm_Pt D cT base ro s w0 H locs cells slots w) (hroom : w'.1.length ≤ w0.1.length + R.cells ∧ mm_sl w'.1 ≤ mm_sl w0.1 + R.slots) (hj : mm_seq j L st w = some (P, L', st', w')) (hP : P) (kk : mm_KK p l e R s m args below meth c Q nL D cT base ro w0 (pc + len) L' st' w') (hd : decode cc pc = .ok (.lstore n, len)) (hr : mm_res o ini (.lstore n) len = some j) : W p l e R s m args below meth c H locs cells slots Q (F0 m pc ls (st.map (mm_cv (mm_ad base ro)))) := by
  obtain ⟨hb1, rfl⟩ := mm_c1 (show cond (Nat.beq len 2) (some (Instr.lstore n)) none = some j from hr)
  obtain rfl := Nat.eq_of_beq_eq_true hb1
  obtain ⟨x, t, L1, rfl, hs, he⟩ := mm_stl_inv hj
  cases he
  have hi := mm_set2_lt hs
  rw [hl.2.1] at hi
  exact lv_lstore C.1 C.2.1 hd hl.has hi rfl (fun ls1 h1 => kk _ _ _ _ _ (mm_set2_ok hl hs h1) hp)
theorem mm_k_astore {n : Nat} (C : mm_Cx p R s m args meth c o ini cc nL D cT base ro) (hl : mm_LH (mm_ad base ro) ls nL L) (hp : mm_Pt D cT base ro s w0 H locs cells slots w) (hroom : w'.1.length ≤ w0.1.length + R.cells ∧ mm_sl w'.1 ≤ mm_sl w0.1 + R.slots) (hj : mm_seq j L st w = some (P, L', st', w')) (hP : P) (kk : mm_KK p l e R s m args below meth c Q nL D cT base ro w0 (pc + len) L' st' w') (hd : decode cc pc = .ok (.astore n, len)) (hr : mm_res o ini (.astore n) len = some j) : W p l e R s m args below meth c H locs cells slots Q (F0 m pc ls (st.map (mm_cv (mm_ad base ro)))) := by
  obtain ⟨hb1, rfl⟩ := mm_c1 (show cond (Nat.beq len 2) (some (Instr.astore n)) none = some j from hr)
  obtain rfl := Nat.eq_of_beq_eq_true hb1
  rcases mm_sta_inv hj with ⟨x, t, L1, rfl, hs, he⟩ | ⟨t, L1, rfl, hs, he⟩
  · cases he
    have hi := mm_set1_lt hs
    rw [hl.2.1] at hi
    exact lv_astore C.1 C.2.1 hd hl.has hi rfl (fun ls1 h1 => kk _ _ _ _ _ (mm_set1_ok hl hs h1) hp)
  · cases he
    have hi := mm_set1_lt hs
    rw [hl.2.1] at hi
    exact lv_astoreN C.1 C.2.1 hd hl.has hi rfl (fun ls1 h1 => kk _ _ _ _ _ (mm_set1_ok hl hs h1) hp)
theorem mm_k_iinc {n : Nat} {d : Int} (C : mm_Cx p R s m args meth c o ini cc nL D cT base ro) (hl : mm_LH (mm_ad base ro) ls nL L) (hp : mm_Pt D cT base ro s w0 H locs cells slots w) (hroom : w'.1.length ≤ w0.1.length + R.cells ∧ mm_sl w'.1 ≤ mm_sl w0.1 + R.slots) (hj : mm_seq j L st w = some (P, L', st', w')) (hP : P) (kk : mm_KK p l e R s m args below meth c Q nL D cT base ro w0 (pc + len) L' st' w') (hd : decode cc pc = .ok (.iinc n d, len)) (hr : mm_res o ini (.iinc n d) len = some j) : W p l e R s m args below meth c H locs cells slots Q (F0 m pc ls (st.map (mm_cv (mm_ad base ro)))) := by
  obtain ⟨hb1, rfl⟩ := mm_c1 (show cond (Nat.beq len 3) (some (Instr.iinc n d)) none = some j from hr)
  obtain rfl := Nat.eq_of_beq_eq_true hb1
  obtain ⟨x, L1, hx, hs, he⟩ := mm_inc_inv hj
  cases he
  have hi := mm_set1_lt hs
  rw [hl.2.1] at hi
  obtain ⟨k, hk⟩ := List.getElem?_of_mem (mm_ll_in (ad := mm_ad base ro) hx)
  exact lv_iinc C.1 C.2.1 hd hl.has hk rfl hi rfl (fun ls1 h1 => kk _ _ _ _ _ (mm_set1_ok hl hs h1) hp)
theorem mm_k_iadd (C : mm_Cx p R s m args meth c o ini cc nL D cT base ro) (hl : mm_LH (mm_ad base ro) ls nL L) (hp : mm_Pt D cT base ro s w0 H locs cells slots w) (hroom : w'.1.length ≤ w0.1.length + R.cells ∧ mm_sl w'.1 ≤ mm_sl w0.1 + R.slots) (hj : mm_seq j L st w = some (P, L', st', w')) (hP : P) (kk : mm_KK p l e R s m args below meth c Q nL D cT base ro w0 (pc + len) L' st' w') (hd : decode cc pc = .ok (.iadd, len)) (hr : mm_res o ini (.iadd) len = some j) : W p l e R s m args below meth c H locs cells slots Q (F0 m pc ls (st.map (mm_cv (mm_ad base ro)))) := by
  obtain ⟨hb1, rfl⟩ := mm_c1 (show cond (Nat.beq len 1) (some (Instr.iadd)) none = some j from hr)
  obtain rfl := Nat.eq_of_beq_eq_true hb1
  obtain ⟨y, x, t, rfl, he⟩ := mm_ii_inv hj
  cases he
  exact lv_iadd C.1 C.2.1 hd (kk _ _ _ _ _ hl hp)
theorem mm_k_isub (C : mm_Cx p R s m args meth c o ini cc nL D cT base ro) (hl : mm_LH (mm_ad base ro) ls nL L) (hp : mm_Pt D cT base ro s w0 H locs cells slots w) (hroom : w'.1.length ≤ w0.1.length + R.cells ∧ mm_sl w'.1 ≤ mm_sl w0.1 + R.slots) (hj : mm_seq j L st w = some (P, L', st', w')) (hP : P) (kk : mm_KK p l e R s m args below meth c Q nL D cT base ro w0 (pc + len) L' st' w') (hd : decode cc pc = .ok (.isub, len)) (hr : mm_res o ini (.isub) len = some j) : W p l e R s m args below meth c H locs cells slots Q (F0 m pc ls (st.map (mm_cv (mm_ad base ro)))) := by
  obtain ⟨hb1, rfl⟩ := mm_c1 (show cond (Nat.beq len 1) (some (Instr.isub)) none = some j from hr)
  obtain rfl := Nat.eq_of_beq_eq_true hb1
  obtain ⟨y, x, t, rfl, he⟩ := mm_ii_inv hj
  cases he
  exact lv_isub C.1 C.2.1 hd (kk _ _ _ _ _ hl hp)
theorem mm_k_imul (C : mm_Cx p R s m args meth c o ini cc nL D cT base ro) (hl : mm_LH (mm_ad base ro) ls nL L) (hp : mm_Pt D cT base ro s w0 H locs cells slots w) (hroom : w'.1.length ≤ w0.1.length + R.cells ∧ mm_sl w'.1 ≤ mm_sl w0.1 + R.slots) (hj : mm_seq j L st w = some (P, L', st', w')) (hP : P) (kk : mm_KK p l e R s m args below meth c Q nL D cT base ro w0 (pc + len) L' st' w') (hd : decode cc pc = .ok (.imul, len)) (hr : mm_res o ini (.imul) len = some j) : W p l e R s m args below meth c H locs cells slots Q (F0 m pc ls (st.map (mm_cv (mm_ad base ro)))) := by
  obtain ⟨hb1, rfl⟩ := mm_c1 (show cond (Nat.beq len 1) (some (Instr.imul)) none = some j from hr)
  obtain rfl := Nat.eq_of_beq_eq_true hb1
  obtain ⟨y, x, t, rfl, he⟩ := mm_ii_inv hj
  cases he
  exact lv_imul C.1 C.2.1 hd (kk _ _ _ _ _ hl hp)
theorem mm_k_iand (C : mm_Cx p R s m args meth c o ini cc nL D cT base ro) (hl : mm_LH (mm_ad base ro) ls nL L) (hp : mm_Pt D cT base ro s w0 H locs cells slots w) (hroom : w'.1.length ≤ w0.1.length + R.cells ∧ mm_sl w'.1 ≤ mm_sl w0.1 + R.slots) (hj : mm_seq j L st w = some (P, L', st', w')) (hP : P) (kk : mm_KK p l e R s m args below meth c Q nL D cT base ro w0 (pc + len) L' st' w') (hd : decode cc pc = .ok (.iand, len)) (hr : mm_res o ini (.iand) len = some j) : W p l e R s m args below meth c H locs cells slots Q (F0 m pc ls (st.map (mm_cv (mm_ad base ro)))) := by
  obtain ⟨hb1, rfl⟩ := mm_c1 (show cond (Nat.beq len 1) (some (Instr.iand)) none = some j from hr)
  obtain rfl := Nat.eq_of_beq_eq_true hb1
  obtain ⟨y, x, t, rfl, he⟩ := mm_ii_inv hj
  cases he
  exact lv_iand C.1 C.2.1 hd (kk _ _ _ _ _ hl hp)
theorem mm_k_ior (C : mm_Cx p R s m args meth c o ini cc nL D cT base ro) (hl : mm_LH (mm_ad base ro) ls nL L) (hp : mm_Pt D cT base ro s w0 H locs cells slots w) (hroom : w'.1.length ≤ w0.1.length + R.cells ∧ mm_sl w'.1 ≤ mm_sl w0.1 + R.slots) (hj : mm_seq j L st w = some (P, L', st', w')) (hP : P) (kk : mm_KK p l e R s m args below meth c Q nL D cT base ro w0 (pc + len) L' st' w') (hd : decode cc pc = .ok (.ior, len)) (hr : mm_res o ini (.ior) len = some j) : W p l e R s m args below meth c H locs cells slots Q (F0 m pc ls (st.map (mm_cv (mm_ad base ro)))) := by
  obtain ⟨hb1, rfl⟩ := mm_c1 (show cond (Nat.beq len 1) (some (Instr.ior)) none = some j from hr)
  obtain rfl := Nat.eq_of_beq_eq_true hb1
  obtain ⟨y, x, t, rfl, he⟩ := mm_ii_inv hj
  cases he
  exact lv_ior C.1 C.2.1 hd (kk _ _ _ _ _ hl hp)
theorem mm_k_ixor (C : mm_Cx p R s m args meth c o ini cc nL D cT base ro) (hl : mm_LH (mm_ad base ro) ls nL L) (hp : mm_Pt D cT base ro s w0 H locs cells slots w) (hroom : w'.1.length ≤ w0.1.length + R.cells ∧ mm_sl w'.1 ≤ mm_sl w0.1 + R.slots) (hj : mm_seq j L st w = some (P, L', st', w')) (hP : P) (kk : mm_KK p l e R s m args below meth c Q nL D cT base ro w0 (pc + len) L' st' w') (hd : decode cc pc = .ok (.ixor, len)) (hr : mm_res o ini (.ixor) len = some j) : W p l e R s m args below meth c H locs cells slots Q (F0 m pc ls (st.map (mm_cv (mm_ad base ro)))) := by
  obtain ⟨hb1, rfl⟩ := mm_c1 (show cond (Nat.beq len 1) (some (Instr.ixor)) none = some j from hr)
  obtain rfl := Nat.eq_of_beq_eq_true hb1
  obtain ⟨y, x, t, rfl, he⟩ := mm_ii_inv hj
  cases he
  exact lv_ixor C.1 C.2.1 hd (kk _ _ _ _ _ hl hp)
theorem mm_k_ishl (C : mm_Cx p R s m args meth c o ini cc nL D cT base ro) (hl : mm_LH (mm_ad base ro) ls nL L) (hp : mm_Pt D cT base ro s w0 H locs cells slots w) (hroom : w'.1.length ≤ w0.1.length + R.cells ∧ mm_sl w'.1 ≤ mm_sl w0.1 + R.slots) (hj : mm_seq j L st w = some (P, L', st', w')) (hP : P) (kk : mm_KK p l e R s m args below meth c Q nL D cT base ro w0 (pc + len) L' st' w') (hd : decode cc pc = .ok (.ishl, len)) (hr : mm_res o ini (.ishl) len = some j) : W p l e R s m args below meth c H locs cells slots Q (F0 m pc ls (st.map (mm_cv (mm_ad base ro)))) := by
  obtain ⟨hb1, rfl⟩ := mm_c1 (show cond (Nat.beq len 1) (some (Instr.ishl)) none = some j from hr)
  obtain rfl := Nat.eq_of_beq_eq_true hb1
  obtain ⟨y, x, t, rfl, he⟩ := mm_ii_inv hj
  cases he
  exact lv_ishl C.1 C.2.1 hd (kk _ _ _ _ _ hl hp)
theorem mm_k_ishr (C : mm_Cx p R s m args meth c o ini cc nL D cT base ro) (hl : mm_LH (mm_ad base ro) ls nL L) (hp : mm_Pt D cT base ro s w0 H locs cells slots w) (hroom : w'.1.length ≤ w0.1.length + R.cells ∧ mm_sl w'.1 ≤ mm_sl w0.1 + R.slots) (hj : mm_seq j L st w = some (P, L', st', w')) (hP : P) (kk : mm_KK p l e R s m args below meth c Q nL D cT base ro w0 (pc + len) L' st' w') (hd : decode cc pc = .ok (.ishr, len)) (hr : mm_res o ini (.ishr) len = some j) : W p l e R s m args below meth c H locs cells slots Q (F0 m pc ls (st.map (mm_cv (mm_ad base ro)))) := by
  obtain ⟨hb1, rfl⟩ := mm_c1 (show cond (Nat.beq len 1) (some (Instr.ishr)) none = some j from hr)
  obtain rfl := Nat.eq_of_beq_eq_true hb1
  obtain ⟨y, x, t, rfl, he⟩ := mm_ii_inv hj
  cases he
  exact lv_ishr C.1 C.2.1 hd (kk _ _ _ _ _ hl hp)
theorem mm_k_iushr (C : mm_Cx p R s m args meth c o ini cc nL D cT base ro) (hl : mm_LH (mm_ad base ro) ls nL L) (hp : mm_Pt D cT base ro s w0 H locs cells slots w) (hroom : w'.1.length ≤ w0.1.length + R.cells ∧ mm_sl w'.1 ≤ mm_sl w0.1 + R.slots) (hj : mm_seq j L st w = some (P, L', st', w')) (hP : P) (kk : mm_KK p l e R s m args below meth c Q nL D cT base ro w0 (pc + len) L' st' w') (hd : decode cc pc = .ok (.iushr, len)) (hr : mm_res o ini (.iushr) len = some j) : W p l e R s m args below meth c H locs cells slots Q (F0 m pc ls (st.map (mm_cv (mm_ad base ro)))) := by
  obtain ⟨hb1, rfl⟩ := mm_c1 (show cond (Nat.beq len 1) (some (Instr.iushr)) none = some j from hr)
  obtain rfl := Nat.eq_of_beq_eq_true hb1
  obtain ⟨y, x, t, rfl, he⟩ := mm_ii_inv hj
  cases he
  exact lv_iushr C.1 C.2.1 hd rfl (kk _ _ _ _ _ hl hp)
theorem mm_k_idiv (C : mm_Cx p R s m args meth c o ini cc nL D cT base ro) (hl : mm_LH (mm_ad base ro) ls nL L) (hp : mm_Pt D cT base ro s w0 H locs cells slots w) (hroom : w'.1.length ≤ w0.1.length + R.cells ∧ mm_sl w'.1 ≤ mm_sl w0.1 + R.slots) (hj : mm_seq j L st w = some (P, L', st', w')) (hP : P) (kk : mm_KK p l e R s m args below meth c Q nL D cT base ro w0 (pc + len) L' st' w') (hd : decode cc pc = .ok (.idiv, len)) (hr : mm_res o ini (.idiv) len = some j) : W p l e R s m args below meth c H locs cells slots Q (F0 m pc ls (st.map (mm_cv (mm_ad base ro)))) := by
  obtain ⟨hb1, rfl⟩ := mm_c1 (show cond (Nat.beq len 1) (some (Instr.idiv)) none = some j from hr)
  obtain rfl := Nat.eq_of_beq_eq_true hb1
  obtain ⟨y, x, t, rfl, he⟩ := mm_in_inv hj
  cases he
  exact lv_idiv C.1 C.2.1 hd hP (kk _ _ _ _ _ hl hp)
theorem mm_k_irem (C : mm_Cx p R s m args meth c o ini cc nL D cT base ro) (hl : mm_LH (mm_ad base ro) ls nL L) (hp : mm_Pt D cT base ro s w0 H locs cells slots w) (hroom : w'.1.length ≤ w0.1.length + R.cells ∧ mm_sl w'.1 ≤ mm_sl w0.1 + R.slots) (hj : mm_seq j L st w = some (P, L', st', w')) (hP : P) (kk : mm_KK p l e R s m args below meth c Q nL D cT base ro w0 (pc + len) L' st' w') (hd : decode cc pc = .ok (.irem, len)) (hr : mm_res o ini (.irem) len = some j) : W p l e R s m args below meth c H locs cells slots Q (F0 m pc ls (st.map (mm_cv (mm_ad base ro)))) := by
  obtain ⟨hb1, rfl⟩ := mm_c1 (show cond (Nat.beq len 1) (some (Instr.irem)) none = some j from hr)
  obtain rfl := Nat.eq_of_beq_eq_true hb1
  obtain ⟨y, x, t, rfl, he⟩ := mm_in_inv hj
  cases he
  exact lv_irem C.1 C.2.1 hd hP (kk _ _ _ _ _ hl hp)
theorem mm_k_ineg (C : mm_Cx p R s m args meth c o ini cc nL D cT base ro) (hl : mm_LH (mm_ad base ro) ls nL L) (hp : mm_Pt D cT base ro s w0 H locs cells slots w) (hroom : w'.1.length ≤ w0.1.length + R.cells ∧ mm_sl w'.1 ≤ mm_sl w0.1 + R.slots) (hj : mm_seq j L st w = some (P, L', st', w')) (hP : P) (kk : mm_KK p l e R s m args below meth c Q nL D cT base ro w0 (pc + len) L' st' w') (hd : decode cc pc = .ok (.ineg, len)) (hr : mm_res o ini (.ineg) len = some j) : W p l e R s m args below meth c H locs cells slots Q (F0 m pc ls (st.map (mm_cv (mm_ad base ro)))) := by
  obtain ⟨hb1, rfl⟩ := mm_c1 (show cond (Nat.beq len 1) (some (Instr.ineg)) none = some j from hr)
  obtain rfl := Nat.eq_of_beq_eq_true hb1
  obtain ⟨x, t, rfl, he⟩ := mm_i1_inv hj
  cases he
  exact lv_ineg C.1 C.2.1 hd (kk _ _ _ _ _ hl hp)
theorem mm_k_i2l (C : mm_Cx p R s m args meth c o ini cc nL D cT base ro) (hl : mm_LH (mm_ad base ro) ls nL L) (hp : mm_Pt D cT base ro s w0 H locs cells slots w) (hroom : w'.1.length ≤ w0.1.length + R.cells ∧ mm_sl w'.1 ≤ mm_sl w0.1 + R.slots) (hj : mm_seq j L st w = some (P, L', st', w')) (hP : P) (kk : mm_KK p l e R s m args below meth c Q nL D cT base ro w0 (pc + len) L' st' w') (hd : decode cc pc = .ok (.i2l, len)) (hr : mm_res o ini (.i2l) len = some j) : W p l e R s m args below meth c H locs cells slots Q (F0 m pc ls (st.map (mm_cv (mm_ad base ro)))) := by
  obtain ⟨hb1, rfl⟩ := mm_c1 (show cond (Nat.beq len 1) (some (Instr.i2l)) none = some j from hr)
  obtain rfl := Nat.eq_of_beq_eq_true hb1
  obtain ⟨x, t, rfl, he⟩ := mm_i1_inv hj
  cases he
  exact lv_i2l C.1 C.2.1 hd rfl (kk _ _ _ _ _ hl hp)
theorem mm_k_i2b (C : mm_Cx p R s m args meth c o ini cc nL D cT base ro) (hl : mm_LH (mm_ad base ro) ls nL L) (hp : mm_Pt D cT base ro s w0 H locs cells slots w) (hroom : w'.1.length ≤ w0.1.length + R.cells ∧ mm_sl w'.1 ≤ mm_sl w0.1 + R.slots) (hj : mm_seq j L st w = some (P, L', st', w')) (hP : P) (kk : mm_KK p l e R s m args below meth c Q nL D cT base ro w0 (pc + len) L' st' w') (hd : decode cc pc = .ok (.i2b, len)) (hr : mm_res o ini (.i2b) len = some j) : W p l e R s m args below meth c H locs cells slots Q (F0 m pc ls (st.map (mm_cv (mm_ad base ro)))) := by
  obtain ⟨hb1, rfl⟩ := mm_c1 (show cond (Nat.beq len 1) (some (Instr.i2b)) none = some j from hr)
  obtain rfl := Nat.eq_of_beq_eq_true hb1
  obtain ⟨x, t, rfl, he⟩ := mm_i1_inv hj
  cases he
  exact lv_i2b C.1 C.2.1 hd rfl (kk _ _ _ _ _ hl hp)
theorem mm_k_i2s (C : mm_Cx p R s m args meth c o ini cc nL D cT base ro) (hl : mm_LH (mm_ad base ro) ls nL L) (hp : mm_Pt D cT base ro s w0 H locs cells slots w) (hroom : w'.1.length ≤ w0.1.length + R.cells ∧ mm_sl w'.1 ≤ mm_sl w0.1 + R.slots) (hj : mm_seq j L st w = some (P, L', st', w')) (hP : P) (kk : mm_KK p l e R s m args below meth c Q nL D cT base ro w0 (pc + len) L' st' w') (hd : decode cc pc = .ok (.i2s, len)) (hr : mm_res o ini (.i2s) len = some j) : W p l e R s m args below meth c H locs cells slots Q (F0 m pc ls (st.map (mm_cv (mm_ad base ro)))) := by
  obtain ⟨hb1, rfl⟩ := mm_c1 (show cond (Nat.beq len 1) (some (Instr.i2s)) none = some j from hr)
  obtain rfl := Nat.eq_of_beq_eq_true hb1
  obtain ⟨x, t, rfl, he⟩ := mm_i1_inv hj
  cases he
  exact lv_i2s C.1 C.2.1 hd rfl (kk _ _ _ _ _ hl hp)
theorem mm_k_l2i (C : mm_Cx p R s m args meth c o ini cc nL D cT base ro) (hl : mm_LH (mm_ad base ro) ls nL L) (hp : mm_Pt D cT base ro s w0 H locs cells slots w) (hroom : w'.1.length ≤ w0.1.length + R.cells ∧ mm_sl w'.1 ≤ mm_sl w0.1 + R.slots) (hj : mm_seq j L st w = some (P, L', st', w')) (hP : P) (kk : mm_KK p l e R s m args below meth c Q nL D cT base ro w0 (pc + len) L' st' w') (hd : decode cc pc = .ok (.l2i, len)) (hr : mm_res o ini (.l2i) len = some j) : W p l e R s m args below meth c H locs cells slots Q (F0 m pc ls (st.map (mm_cv (mm_ad base ro)))) := by
  obtain ⟨hb1, rfl⟩ := mm_c1 (show cond (Nat.beq len 1) (some (Instr.l2i)) none = some j from hr)
  obtain rfl := Nat.eq_of_beq_eq_true hb1
  obtain ⟨x, t, rfl, he⟩ := mm_j1_inv hj
  cases he
  exact lv_l2i C.1 C.2.1 hd rfl (kk _ _ _ _ _ hl hp)
theorem mm_k_ladd (C : mm_Cx p R s m args meth c o ini cc nL D cT base ro) (hl : mm_LH (mm_ad base ro) ls nL L) (hp : mm_Pt D cT base ro s w0 H locs cells slots w) (hroom : w'.1.length ≤ w0.1.length + R.cells ∧ mm_sl w'.1 ≤ mm_sl w0.1 + R.slots) (hj : mm_seq j L st w = some (P, L', st', w')) (hP : P) (kk : mm_KK p l e R s m args below meth c Q nL D cT base ro w0 (pc + len) L' st' w') (hd : decode cc pc = .ok (.ladd, len)) (hr : mm_res o ini (.ladd) len = some j) : W p l e R s m args below meth c H locs cells slots Q (F0 m pc ls (st.map (mm_cv (mm_ad base ro)))) := by
  obtain ⟨hb1, rfl⟩ := mm_c1 (show cond (Nat.beq len 1) (some (Instr.ladd)) none = some j from hr)
  obtain rfl := Nat.eq_of_beq_eq_true hb1
  obtain ⟨y, x, t, rfl, he⟩ := mm_jj_inv hj
  cases he
  exact lv_ladd C.1 C.2.1 hd (kk _ _ _ _ _ hl hp)
theorem mm_k_lsub (C : mm_Cx p R s m args meth c o ini cc nL D cT base ro) (hl : mm_LH (mm_ad base ro) ls nL L) (hp : mm_Pt D cT base ro s w0 H locs cells slots w) (hroom : w'.1.length ≤ w0.1.length + R.cells ∧ mm_sl w'.1 ≤ mm_sl w0.1 + R.slots) (hj : mm_seq j L st w = some (P, L', st', w')) (hP : P) (kk : mm_KK p l e R s m args below meth c Q nL D cT base ro w0 (pc + len) L' st' w') (hd : decode cc pc = .ok (.lsub, len)) (hr : mm_res o ini (.lsub) len = some j) : W p l e R s m args below meth c H locs cells slots Q (F0 m pc ls (st.map (mm_cv (mm_ad base ro)))) := by
  obtain ⟨hb1, rfl⟩ := mm_c1 (show cond (Nat.beq len 1) (some (Instr.lsub)) none = some j from hr)
  obtain rfl := Nat.eq_of_beq_eq_true hb1
  obtain ⟨y, x, t, rfl, he⟩ := mm_jj_inv hj
  cases he
  exact lv_lsub C.1 C.2.1 hd (kk _ _ _ _ _ hl hp)
theorem mm_k_lmul (C : mm_Cx p R s m args meth c o ini cc nL D cT base ro) (hl : mm_LH (mm_ad base ro) ls nL L) (hp : mm_Pt D cT base ro s w0 H locs cells slots w) (hroom : w'.1.length ≤ w0.1.length + R.cells ∧ mm_sl w'.1 ≤ mm_sl w0.1 + R.slots) (hj : mm_seq j L st w = some (P, L', st', w')) (hP : P) (kk : mm_KK p l e R s m args below meth c Q nL D cT base ro w0 (pc + len) L' st' w') (hd : decode cc pc = .ok (.lmul, len)) (hr : mm_res o ini (.lmul) len = some j) : W p l e R s m args below meth c H locs cells slots Q (F0 m pc ls (st.map (mm_cv (mm_ad base ro)))) := by
  obtain ⟨hb1, rfl⟩ := mm_c1 (show cond (Nat.beq len 1) (some (Instr.lmul)) none = some j from hr)
  obtain rfl := Nat.eq_of_beq_eq_true hb1
  obtain ⟨y, x, t, rfl, he⟩ := mm_jj_inv hj
  cases he
  exact lv_lmul C.1 C.2.1 hd (kk _ _ _ _ _ hl hp)
theorem mm_k_land (C : mm_Cx p R s m args meth c o ini cc nL D cT base ro) (hl : mm_LH (mm_ad base ro) ls nL L) (hp : mm_Pt D cT base ro s w0 H locs cells slots w) (hroom : w'.1.length ≤ w0.1.length + R.cells ∧ mm_sl w'.1 ≤ mm_sl w0.1 + R.slots) (hj : mm_seq j L st w = some (P, L', st', w')) (hP : P) (kk : mm_KK p l e R s m args below meth c Q nL D cT base ro w0 (pc + len) L' st' w') (hd : decode cc pc = .ok (.land, len)) (hr : mm_res o ini (.land) len = some j) : W p l e R s m args below meth c H locs cells slots Q (F0 m pc ls (st.map (mm_cv (mm_ad base ro)))) := by
  obtain ⟨hb1, rfl⟩ := mm_c1 (show cond (Nat.beq len 1) (some (Instr.land)) none = some j from hr)
  obtain rfl := Nat.eq_of_beq_eq_true hb1
  obtain ⟨y, x, t, rfl, he⟩ := mm_jj_inv hj
  cases he
  exact lv_land C.1 C.2.1 hd (kk _ _ _ _ _ hl hp)
theorem mm_k_lor (C : mm_Cx p R s m args meth c o ini cc nL D cT base ro) (hl : mm_LH (mm_ad base ro) ls nL L) (hp : mm_Pt D cT base ro s w0 H locs cells slots w) (hroom : w'.1.length ≤ w0.1.length + R.cells ∧ mm_sl w'.1 ≤ mm_sl w0.1 + R.slots) (hj : mm_seq j L st w = some (P, L', st', w')) (hP : P) (kk : mm_KK p l e R s m args below meth c Q nL D cT base ro w0 (pc + len) L' st' w') (hd : decode cc pc = .ok (.lor, len)) (hr : mm_res o ini (.lor) len = some j) : W p l e R s m args below meth c H locs cells slots Q (F0 m pc ls (st.map (mm_cv (mm_ad base ro)))) := by
  obtain ⟨hb1, rfl⟩ := mm_c1 (show cond (Nat.beq len 1) (some (Instr.lor)) none = some j from hr)
  obtain rfl := Nat.eq_of_beq_eq_true hb1
  obtain ⟨y, x, t, rfl, he⟩ := mm_jj_inv hj
  cases he
  exact lv_lor C.1 C.2.1 hd (kk _ _ _ _ _ hl hp)
theorem mm_k_ldiv (C : mm_Cx p R s m args meth c o ini cc nL D cT base ro) (hl : mm_LH (mm_ad base ro) ls nL L) (hp : mm_Pt D cT base ro s w0 H locs cells slots w) (hroom : w'.1.length ≤ w0.1.length + R.cells ∧ mm_sl w'.1 ≤ mm_sl w0.1 + R.slots) (hj : mm_seq j L st w = some (P, L', st', w')) (hP : P) (kk : mm_KK p l e R s m args below meth c Q nL D cT base ro w0 (pc + len) L' st' w') (hd : decode cc pc = .ok (.ldiv, len)) (hr : mm_res o ini (.ldiv) len = some j) : W p l e R s m args below meth c H locs cells slots Q (F0 m pc ls (st.map (mm_cv (mm_ad base ro)))) := by
  obtain ⟨hb1, rfl⟩ := mm_c1 (show cond (Nat.beq len 1) (some (Instr.ldiv)) none = some j from hr)
  obtain rfl := Nat.eq_of_beq_eq_true hb1
  obtain ⟨y, x, t, rfl, he⟩ := mm_jn_inv hj
  cases he
  exact lv_ldiv C.1 C.2.1 hd hP (kk _ _ _ _ _ hl hp)
theorem mm_k_lrem (C : mm_Cx p R s m args meth c o ini cc nL D cT base ro) (hl : mm_LH (mm_ad base ro) ls nL L) (hp : mm_Pt D cT base ro s w0 H locs cells slots w) (hroom : w'.1.length ≤ w0.1.length + R.cells ∧ mm_sl w'.1 ≤ mm_sl w0.1 + R.slots) (hj : mm_seq j L st w = some (P, L', st', w')) (hP : P) (kk : mm_KK p l e R s m args below meth c Q nL D cT base ro w0 (pc + len) L' st' w') (hd : decode cc pc = .ok (.lrem, len)) (hr : mm_res o ini (.lrem) len = some j) : W p l e R s m args below meth c H locs cells slots Q (F0 m pc ls (st.map (mm_cv (mm_ad base ro)))) := by
  obtain ⟨hb1, rfl⟩ := mm_c1 (show cond (Nat.beq len 1) (some (Instr.lrem)) none = some j from hr)
  obtain rfl := Nat.eq_of_beq_eq_true hb1
  obtain ⟨y, x, t, rfl, he⟩ := mm_jn_inv hj
  cases he
  exact lv_lrem C.1 C.2.1 hd hP (kk _ _ _ _ _ hl hp)
theorem mm_k_lshl (C : mm_Cx p R s m args meth c o ini cc nL D cT base ro) (hl : mm_LH (mm_ad base ro) ls nL L) (hp : mm_Pt D cT base ro s w0 H locs cells slots w) (hroom : w'.1.length ≤ w0.1.length + R.cells ∧ mm_sl w'.1 ≤ mm_sl w0.1 + R.slots) (hj : mm_seq j L st w = some (P, L', st', w')) (hP : P) (kk : mm_KK p l e R s m args below meth c Q nL D cT base ro w0 (pc + len) L' st' w') (hd : decode cc pc = .ok (.lshl, len)) (hr : mm_res o ini (.lshl) len = some j) : W p l e R s m args below meth c H locs cells slots Q (F0 m pc ls (st.map (mm_cv (mm_ad base ro)))) := by
  obtain ⟨hb1, rfl⟩ := mm_c1 (show cond (Nat.beq len 1) (some (Instr.lshl)) none = some j from hr)
  obtain rfl := Nat.eq_of_beq_eq_true hb1
  obtain ⟨y, x, t, rfl, he⟩ := mm_ij_inv hj
  cases he
  exact lv_lshl C.1 C.2.1 hd rfl (kk _ _ _ _ _ hl hp)
theorem mm_k_lcmp (C : mm_Cx p R s m args meth c o ini cc nL D cT base ro) (hl : mm_LH (mm_ad base ro) ls nL L) (hp : mm_Pt D cT base ro s w0 H locs cells slots w) (hroom : w'.1.length ≤ w0.1.length + R.cells ∧ mm_sl w'.1 ≤ mm_sl w0.1 + R.slots) (hj : mm_seq j L st w = some (P, L', st', w')) (hP : P) (kk : mm_KK p l e R s m args below meth c Q nL D cT base ro w0 (pc + len) L' st' w') (hd : decode cc pc = .ok (.lcmp, len)) (hr : mm_res o ini (.lcmp) len = some j) : W p l e R s m args below meth c H locs cells slots Q (F0 m pc ls (st.map (mm_cv (mm_ad base ro)))) := by
  obtain ⟨hb1, rfl⟩ := mm_c1 (show cond (Nat.beq len 1) (some (Instr.lcmp)) none = some j from hr)
  obtain rfl := Nat.eq_of_beq_eq_true hb1
  obtain ⟨y, x, t, rfl, he⟩ := mm_ji_inv hj
  cases he
  exact W.lcmp C.1 C.2.1 hd (kk _ _ _ _ _ hl hp)
theorem mm_k_dup (C : mm_Cx p R s m args meth c o ini cc nL D cT base ro) (hl : mm_LH (mm_ad base ro) ls nL L) (hp : mm_Pt D cT base ro s w0 H locs cells slots w) (hroom : w'.1.length ≤ w0.1.length + R.cells ∧ mm_sl w'.1 ≤ mm_sl w0.1 + R.slots) (hj : mm_seq j L st w = some (P, L', st', w')) (hP : P) (kk : mm_KK p l e R s m args below meth c Q nL D cT base ro w0 (pc + len) L' st' w') (hd : decode cc pc = .ok (.dup, len)) (hr : mm_res o ini (.dup) len = some j) : W p l e R s m args below meth c H locs cells slots Q (F0 m pc ls (st.map (mm_cv (mm_ad base ro)))) := by
  obtain ⟨hb1, rfl⟩ := mm_c1 (show cond (Nat.beq len 1) (some (Instr.dup)) none = some j from hr)
  obtain rfl := Nat.eq_of_beq_eq_true hb1
  replace hj : mm_dup L st w = some (P, L', st', w') := hj
  unfold mm_dup at hj
  split at hj
  · obtain ⟨hb2, he⟩ := mm_cond_inv hj
    cases he
    exact lv_dup C.1 C.2.1 hd (by rw [mm_cv_cat]; exact Nat.eq_of_beq_eq_true hb2) (kk _ _ _ _ _ hl hp)
  · cases hj
theorem mm_k_dup2 (C : mm_Cx p R s m args meth c o ini cc nL D cT base ro) (hl : mm_LH (mm_ad base ro) ls nL L) (hp : mm_Pt D cT base ro s w0 H locs cells slots w) (hroom : w'.1.length ≤ w0.1.length + R.cells ∧ mm_sl w'.1 ≤ mm_sl w0.1 + R.slots) (hj : mm_seq j L st w = some (P, L', st', w')) (hP : P) (kk : mm_KK p l e R s m args below meth c Q nL D cT base ro w0 (pc + len) L' st' w') (hd : decode cc pc = .ok (.dup2, len)) (hr : mm_res o ini (.dup2) len = some j) : W p l e R s m args below meth c H locs cells slots Q (F0 m pc ls (st.map (mm_cv (mm_ad base ro)))) := by
  obtain ⟨hb1, rfl⟩ := mm_c1 (show cond (Nat.beq len 1) (some (Instr.dup2)) none = some j from hr)
  obtain rfl := Nat.eq_of_beq_eq_true hb1
  replace hj : mm_dup2 L st w = some (P, L', st', w') := hj
  unfold mm_dup2 at hj
  split at hj
  · obtain ⟨hb2, he⟩ := mm_cond_inv hj
    simp only [Bool.and_eq_true] at hb2
    cases he
    exact lv_dup2_11 C.1 C.2.1 hd (by rw [mm_cv_cat]; exact Nat.eq_of_beq_eq_true hb2.1) (by rw [mm_cv_cat]; exact Nat.eq_of_beq_eq_true hb2.2) (kk _ _ _ _ _ hl hp)
  · cases hj
theorem mm_k_pop (C : mm_Cx p R s m args meth c o ini cc nL D cT base ro) (hl : mm_LH (mm_ad base ro) ls nL L) (hp : mm_Pt D cT base ro s w0 H locs cells slots w) (hroom : w'.1.length ≤ w0.1.length + R.cells ∧ mm_sl w'.1 ≤ mm_sl w0.1 + R.slots) (hj : mm_seq j L st w = some (P, L', st', w')) (hP : P) (kk : mm_KK p l e R s m args below meth c Q nL D cT base ro w0 (pc + len) L' st' w') (hd : decode cc pc = .ok (.pop, len)) (hr : mm_res o ini (.pop) len = some j) : W p l e R s m args below meth c H locs cells slots Q (F0 m pc ls (st.map (mm_cv (mm_ad base ro)))) := by
  obtain ⟨hb1, rfl⟩ := mm_c1 (show cond (Nat.beq len 1) (some (Instr.pop)) none = some j from hr)
  obtain rfl := Nat.eq_of_beq_eq_true hb1
  replace hj : mm_pop L st w = some (P, L', st', w') := hj
  unfold mm_pop at hj
  split at hj
  · obtain ⟨hb2, he⟩ := mm_cond_inv hj
    cases he
    exact lv_pop C.1 C.2.1 hd (by rw [mm_cv_cat]; exact Nat.eq_of_beq_eq_true hb2) (kk _ _ _ _ _ hl hp)
  · cases hj
theorem mm_k_aconst_null (C : mm_Cx p R s m args meth c o ini cc nL D cT base ro) (hl : mm_LH (mm_ad base ro) ls nL L) (hp : mm_Pt D cT base ro s w0 H locs cells slots w) (hroom : w'.1.length ≤ w0.1.length + R.cells ∧ mm_sl w'.1 ≤ mm_sl w0.1 + R.slots) (hj : mm_seq j L st w = some (P, L', st', w')) (hP : P) (kk : mm_KK p l e R s m args below meth c Q nL D cT base ro w0 (pc + len) L' st' w') (hd : decode cc pc = .ok (.aconst_null, len)) (hr : mm_res o ini (.aconst_null) len = some j) : W p l e R s m args below meth c H locs cells slots Q (F0 m pc ls (st.map (mm_cv (mm_ad base ro)))) := by
  obtain ⟨hb1, rfl⟩ := mm_c1 (show cond (Nat.beq len 1) (some (Instr.aconst_null)) none = some j from hr)
  obtain rfl := Nat.eq_of_beq_eq_true hb1
  cases hj
  exact lv_null C.1 C.2.1 hd (kk _ _ _ _ _ hl hp)
theorem mm_k_getstatic {x : Nat} (C : mm_Cx p R s m args meth c o ini cc nL D cT base ro) (hl : mm_LH (mm_ad base ro) ls nL L) (hp : mm_Pt D cT base ro s w0 H locs cells slots w) (hroom : w'.1.length ≤ w0.1.length + R.cells ∧ mm_sl w'.1 ≤ mm_sl w0.1 + R.slots) (hj : mm_seq j L st w = some (P, L', st', w')) (hP : P) (kk : mm_KK p l e R s m args below meth c Q nL D cT base ro w0 (pc + len) L' st' w') (hd : decode cc pc = .ok (.getstatic x, len)) (hr : mm_res o ini (.getstatic x) len = some j) : W p l e R s m args below meth c H locs cells slots Q (F0 m pc ls (st.map (mm_cv (mm_ad base ro)))) := by
  obtain ⟨hb1, hr⟩ := mm_c2' (show cond (Nat.beq len 3) ((mm_look mm_staL o x).map fun q => Instr.getstatic q.1) none = some j from hr)
  obtain rfl := Nat.eq_of_beq_eq_true hb1
  obtain ⟨z, hz, rfl⟩ := Option.map_eq_some_iff.mp hr
  obtain ⟨n, hn⟩ := mm_look_in hz
  obtain ⟨hb2, he⟩ := mm_cond_inv (show mm_cond (Nat.blt z.1 7 && Nat.blt 0 z.1) (some (True, L, Value.ref z.1 :: st, w)) = _ from hj)
  simp only [Bool.and_eq_true] at hb2
  cases he
  have h7 : z.1 < 7 := Nat.le_of_ble_eq_true hb2.1
  have e1 : mm_ad base ro z.1 = ro z.1 := if_pos h7
  refine va_gets C.1 C.2.1 (C.2.2.2.2.2.2.2.2.1 _ hn) hp.2.1 C.2.2.2.1 (C.has (mm_sta_ok _ hn) rfl) (fun _ h => h) hd ?_
  have k1 := kk _ _ _ _ _ hl hp
  rw [← e1]
  exact k1
theorem mm_k_arraylength (C : mm_Cx p R s m args meth c o ini cc nL D cT base ro) (hl : mm_LH (mm_ad base ro) ls nL L) (hp : mm_Pt D cT base ro s w0 H locs cells slots w) (hroom : w'.1.length ≤ w0.1.length + R.cells ∧ mm_sl w'.1 ≤ mm_sl w0.1 + R.slots) (hj : mm_seq j L st w = some (P, L', st', w')) (hP : P) (kk : mm_KK p l e R s m args below meth c Q nL D cT base ro w0 (pc + len) L' st' w') (hd : decode cc pc = .ok (.arraylength, len)) (hr : mm_res o ini (.arraylength) len = some j) : W p l e R s m args below meth c H locs cells slots Q (F0 m pc ls (st.map (mm_cv (mm_ad base ro)))) := by
  obtain ⟨hb1, rfl⟩ := mm_c1 (show cond (Nat.beq len 1) (some (Instr.arraylength)) none = some j from hr)
  obtain rfl := Nat.eq_of_beq_eq_true hb1
  replace hj : mm_len L st w = some (P, L', st', w') := hj
  unfold mm_len at hj
  split at hj
  · rename_i k t
    obtain ⟨hb2, he⟩ := mm_cond_inv hj
    cases he
    have hk6 : (mm_nth w.1 k).1 < 6 := Nat.le_of_ble_eq_true hb2
    rcases (show (mm_nth w.1 k).1 = 0 ∨ (mm_nth w.1 k).1 = 1 ∨ (mm_nth w.1 k).1 = 2 ∨ (mm_nth w.1 k).1 = 3 ∨ (mm_nth w.1 k).1 = 4 ∨ (mm_nth w.1 k).1 = 5 by omega) with hk | hk | hk | hk | hk | hk
    · have ha := hp.at (by rw [hk]; decide) (by rw [hk]; decide) (by rw [hk]; decide)
      rw [mm_cell0 hk] at ha
      exact va_alen C.1 C.2.1 C.2.2.2.2.2.2.2.1 hp.1.1 (k - 7) 0 ha rfl rfl hd (kk _ _ _ _ _ hl hp)
    · have ha := hp.at (by rw [hk]; decide) (by rw [hk]; decide) (by rw [hk]; decide)
      rw [mm_cell1 hk] at ha
      exact va_alen C.1 C.2.1 C.2.2.2.2.2.2.2.1 hp.1.1 (k - 7) 1 ha rfl rfl hd (kk _ _ _ _ _ hl hp)
    · have ha := hp.at (by rw [hk]; decide) (by rw [hk]; decide) (by rw [hk]; decide)
      rw [mm_cell2 hk] at ha
      exact va_alen C.1 C.2.1 C.2.2.2.2.2.2.2.1 hp.1.1 (k - 7) 2 ha rfl rfl hd (kk _ _ _ _ _ hl hp)
    · have ha := hp.at (by rw [hk]; decide) (by rw [hk]; decide) (by rw [hk]; decide)
      rw [mm_cell3 hk] at ha
      exact va_alen C.1 C.2.1 C.2.2.2.2.2.2.2.1 hp.1.1 (k - 7) 3 ha rfl rfl hd (kk _ _ _ _ _ hl hp)
    · obtain ⟨e1, hT⟩ := hp.ro4 hk
      have k1 := kk _ _ _ _ _ hl hp
      show W p l e R s m args below meth c H locs cells slots Q (F0 m pc ls (.ref (mm_ad base ro k) :: t.map (mm_cv (mm_ad base ro))))
      rw [e1]
      exact va_tlen C.1 C.2.1 hT hp.2.1 rfl hd k1
    · obtain ⟨e1, hT⟩ := hp.ro5 hk
      have k1 := kk _ _ _ _ _ hl hp
      show W p l e R s m args below meth c H locs cells slots Q (F0 m pc ls (.ref (mm_ad base ro k) :: t.map (mm_cv (mm_ad base ro))))
      rw [e1]
      exact va_tlen C.1 C.2.1 hT hp.2.1 rfl hd k1
  · cases hj
theorem mm_k_iaload (C : mm_Cx p R s m args meth c o ini cc nL D cT base ro) (hl : mm_LH (mm_ad base ro) ls nL L) (hp : mm_Pt D cT base ro s w0 H locs cells slots w) (hroom : w'.1.length ≤ w0.1.length + R.cells ∧ mm_sl w'.1 ≤ mm_sl w0.1 + R.slots) (hj : mm_seq j L st w = some (P, L', st', w')) (hP : P) (kk : mm_KK p l e R s m args below meth c Q nL D cT base ro w0 (pc + len) L' st' w') (hd : decode cc pc = .ok (.iaload, len)) (hr : mm_res o ini (.iaload) len = some j) : W p l e R s m args below meth c H locs cells slots Q (F0 m pc ls (st.map (mm_cv (mm_ad base ro)))) := by
  obtain ⟨hb1, rfl⟩ := mm_c1 (show cond (Nat.beq len 1) (some (Instr.iaload)) none = some j from hr)
  obtain rfl := Nat.eq_of_beq_eq_true hb1
  obtain ⟨i, k, t, rfl, hb2, he⟩ := mm_ald_inv (ok := fun k => Nat.beq k 0 || Nat.beq k 4) (f := fun w k i => .int (w.2.1 k i)) hj
  cases he
  rcases Bool.or_eq_true _ _ ▸ hb2 with hb2 | hb2
  · have hk : (mm_nth w.1 k).1 = 0 := Nat.eq_of_beq_eq_true hb2
    have ha := hp.at (by rw [hk]; decide) (by rw [hk]; decide) (by rw [hk]; decide)
    rw [mm_cell0 hk] at ha
    exact va_iald C.1 C.2.1 C.2.2.2.2.2.2.2.1 hp.1.1 (k - 7) 0 ha rfl hP hd (kk _ _ _ _ _ hl hp)
  · have hk : (mm_nth w.1 k).1 = 4 := Nat.eq_of_beq_eq_true hb2
    obtain ⟨e1, hT⟩ := hp.ro4 hk
    have k1 := kk _ _ _ _ _ hl hp
    show W p l e R s m args below meth c H locs cells slots Q (F0 m pc ls (.int i :: .ref (mm_ad base ro k) :: t.map (mm_cv (mm_ad base ro))))
    rw [e1]
    exact va_ti C.1 C.2.1 hT hp.2.1 hP rfl hd k1
theorem mm_k_baload (C : mm_Cx p R s m args meth c o ini cc nL D cT base ro) (hl : mm_LH (mm_ad base ro) ls nL L) (hp : mm_Pt D cT base ro s w0 H locs cells slots w) (hroom : w'.1.length ≤ w0.1.length + R.cells ∧ mm_sl w'.1 ≤ mm_sl w0.1 + R.slots) (hj : mm_seq j L st w = some (P, L', st', w')) (hP : P) (kk : mm_KK p l e R s m args below meth c Q nL D cT base ro w0 (pc + len) L' st' w') (hd : decode cc pc = .ok (.baload, len)) (hr : mm_res o ini (.baload) len = some j) : W p l e R s m args below meth c H locs cells slots Q (F0 m pc ls (st.map (mm_cv (mm_ad base ro)))) := by
  obtain ⟨hb1, rfl⟩ := mm_c1 (show cond (Nat.beq len 1) (some (Instr.baload)) none = some j from hr)
  obtain rfl := Nat.eq_of_beq_eq_true hb1
  obtain ⟨i, k, t, rfl, hb2, he⟩ := mm_ald_inv (ok := fun k => Nat.beq k 1) (f := fun w k i => .int (w.2.1 k i)) hj
  cases he
  have hk : (mm_nth w.1 k).1 = 1 := Nat.eq_of_beq_eq_true hb2
  have ha := hp.at (by rw [hk]; decide) (by rw [hk]; decide) (by rw [hk]; decide)
  rw [mm_cell1 hk] at ha
  exact va_zald C.1 C.2.1 C.2.2.2.2.2.2.2.1 hp.1.1 (k - 7) 1 ha rfl hP hd (kk _ _ _ _ _ hl hp)
theorem mm_k_laload (C : mm_Cx p R s m args meth c o ini cc nL D cT base ro) (hl : mm_LH (mm_ad base ro) ls nL L) (hp : mm_Pt D cT base ro s w0 H locs cells slots w) (hroom : w'.1.length ≤ w0.1.length + R.cells ∧ mm_sl w'.1 ≤ mm_sl w0.1 + R.slots) (hj : mm_seq j L st w = some (P, L', st', w')) (hP : P) (kk : mm_KK p l e R s m args below meth c Q nL D cT base ro w0 (pc + len) L' st' w') (hd : decode cc pc = .ok (.laload, len)) (hr : mm_res o ini (.laload) len = some j) : W p l e R s m args below meth c H locs cells slots Q (F0 m pc ls (st.map (mm_cv (mm_ad base ro)))) := by
  obtain ⟨hb1, rfl⟩ := mm_c1 (show cond (Nat.beq len 1) (some (Instr.laload)) none = some j from hr)
  obtain rfl := Nat.eq_of_beq_eq_true hb1
  obtain ⟨i, k, t, rfl, hb2, he⟩ := mm_ald_inv (ok := fun k => Nat.beq k 2 || Nat.beq k 5) (f := fun w k i => .long (w.2.2.1 k i)) hj
  cases he
  rcases Bool.or_eq_true _ _ ▸ hb2 with hb2 | hb2
  · have hk : (mm_nth w.1 k).1 = 2 := Nat.eq_of_beq_eq_true hb2
    have ha := hp.at (by rw [hk]; decide) (by rw [hk]; decide) (by rw [hk]; decide)
    rw [mm_cell2 hk] at ha
    exact va_lald C.1 C.2.1 C.2.2.2.2.2.2.2.1 hp.1.1 (k - 7) 2 ha rfl hP hd (kk _ _ _ _ _ hl hp)
  · have hk : (mm_nth w.1 k).1 = 5 := Nat.eq_of_beq_eq_true hb2
    obtain ⟨e1, hT⟩ := hp.ro5 hk
    have k1 := kk _ _ _ _ _ hl hp
    show W p l e R s m args below meth c H locs cells slots Q (F0 m pc ls (.int i :: .ref (mm_ad base ro k) :: t.map (mm_cv (mm_ad base ro))))
    rw [e1]
    exact va_tl C.1 C.2.1 hT hp.2.1 hP rfl hd k1
theorem mm_k_aaload (C : mm_Cx p R s m args meth c o ini cc nL D cT base ro) (hl : mm_LH (mm_ad base ro) ls nL L) (hp : mm_Pt D cT base ro s w0 H locs cells slots w) (hroom : w'.1.length ≤ w0.1.length + R.cells ∧ mm_sl w'.1 ≤ mm_sl w0.1 + R.slots) (hj : mm_seq j L st w = some (P, L', st', w')) (hP : P) (kk : mm_KK p l e R s m args below meth c Q nL D cT base ro w0 (pc + len) L' st' w') (hd : decode cc pc = .ok (.aaload, len)) (hr : mm_res o ini (.aaload) len = some j) : W p l e R s m args below meth c H locs cells slots Q (F0 m pc ls (st.map (mm_cv (mm_ad base ro)))) := by
  obtain ⟨hb1, rfl⟩ := mm_c1 (show cond (Nat.beq len 1) (some (Instr.aaload)) none = some j from hr)
  obtain rfl := Nat.eq_of_beq_eq_true hb1
  obtain ⟨i, k, t, rfl, hb2, he⟩ := mm_ald_inv (ok := fun k => Nat.beq k 3) (f := fun w k i => va_rf (w.2.2.2 k i)) hj
  cases he
  have hk : (mm_nth w.1 k).1 = 3 := Nat.eq_of_beq_eq_true hb2
  have ha := hp.at (by rw [hk]; decide) (by rw [hk]; decide) (by rw [hk]; decide)
  rw [mm_cell3 hk] at ha
  have k1 := kk _ _ _ _ _ hl hp
  rw [List.map_cons, mm_cv_rf] at k1
  exact va_aldq C.1 C.2.1 C.2.2.2.2.2.2.2.1 hp.1.1 (k - 7) 3 ha rfl hP hd k1
theorem mm_k_iastore (C : mm_Cx p R s m args meth c o ini cc nL D cT base ro) (hl : mm_LH (mm_ad base ro) ls nL L) (hp : mm_Pt D cT base ro s w0 H locs cells slots w) (hroom : w'.1.length ≤ w0.1.length + R.cells ∧ mm_sl w'.1 ≤ mm_sl w0.1 + R.slots) (hj : mm_seq j L st w = some (P, L', st', w')) (hP : P) (kk : mm_KK p l e R s m args below meth c Q nL D cT base ro w0 (pc + len) L' st' w') (hd : decode cc pc = .ok (.iastore, len)) (hr : mm_res o ini (.iastore) len = some j) : W p l e R s m args below meth c H locs cells slots Q (F0 m pc ls (st.map (mm_cv (mm_ad base ro)))) := by
  obtain ⟨hb1, rfl⟩ := mm_c1 (show cond (Nat.beq len 1) (some (Instr.iastore)) none = some j from hr)
  obtain rfl := Nat.eq_of_beq_eq_true hb1
  obtain ⟨x, i, k, t, rfl, hk, he⟩ := mm_ist_inv (kd := 0) (f := fun x => x) hj
  cases he
  have ha := hp.at (by rw [hk]; decide) (by rw [hk]; decide) (by rw [hk]; decide)
  rw [mm_cell0 hk] at ha
  refine va_iast C.1 C.2.1 C.2.2.2.2.2.2.2.1 hp.1.1 mm_all_D hp.2.1 (k - 7) 0 ha rfl hP hd (fun H1 locs1 hP1 _ hS1 => kk _ _ _ _ _ hl (hp.sets (mm_off_I _) (by rw [hk]; decide) (by rw [hk]; decide) (by rw [hk]; decide) hP1 ?_ hS1))
  rw [mm_cell0 (w := (w.1, mm_uc w.2.1 k _, w.2.2)) hk]
  simp only [mm_uc_self]
theorem mm_k_bastore (C : mm_Cx p R s m args meth c o ini cc nL D cT base ro) (hl : mm_LH (mm_ad base ro) ls nL L) (hp : mm_Pt D cT base ro s w0 H locs cells slots w) (hroom : w'.1.length ≤ w0.1.length + R.cells ∧ mm_sl w'.1 ≤ mm_sl w0.1 + R.slots) (hj : mm_seq j L st w = some (P, L', st', w')) (hP : P) (kk : mm_KK p l e R s m args below meth c Q nL D cT base ro w0 (pc + len) L' st' w') (hd : decode cc pc = .ok (.bastore, len)) (hr : mm_res o ini (.bastore) len = some j) : W p l e R s m args below meth c H locs cells slots Q (F0 m pc ls (st.map (mm_cv (mm_ad base ro)))) := by
  obtain ⟨hb1, rfl⟩ := mm_c1 (show cond (Nat.beq len 1) (some (Instr.bastore)) none = some j from hr)
  obtain rfl := Nat.eq_of_beq_eq_true hb1
  obtain ⟨x, i, k, t, rfl, hk, he⟩ := mm_ist_inv (kd := 1) (f := vp_nar .boolean) hj
  cases he
  have ha := hp.at (by rw [hk]; decide) (by rw [hk]; decide) (by rw [hk]; decide)
  rw [mm_cell1 hk] at ha
  refine va_zast C.1 C.2.1 C.2.2.2.2.2.2.2.1 hp.1.1 mm_all_D hp.2.1 (k - 7) 1 ha rfl hP hd (fun H1 locs1 hP1 _ hS1 => kk _ _ _ _ _ hl (hp.sets (mm_off_I _) (by rw [hk]; decide) (by rw [hk]; decide) (by rw [hk]; decide) hP1 ?_ hS1))
  rw [mm_cell1 (w := (w.1, mm_uc w.2.1 k _, w.2.2)) hk]
  simp only [mm_uc_self]
theorem mm_k_lastore (C : mm_Cx p R s m args meth c o ini cc nL D cT base ro) (hl : mm_LH (mm_ad base ro) ls nL L) (hp : mm_Pt D cT base ro s w0 H locs cells slots w) (hroom : w'.1.length ≤ w0.1.length + R.cells ∧ mm_sl w'.1 ≤ mm_sl w0.1 + R.slots) (hj : mm_seq j L st w = some (P, L', st', w')) (hP : P) (kk : mm_KK p l e R s m args below meth c Q nL D cT base ro w0 (pc + len) L' st' w') (hd : decode cc pc = .ok (.lastore, len)) (hr : mm_res o ini (.lastore) len = some j) : W p l e R s m args below meth c H locs cells slots Q (F0 m pc ls (st.map (mm_cv (mm_ad base ro)))) := by
  obtain ⟨hb1, rfl⟩ := mm_c1 (show cond (Nat.beq len 1) (some (Instr.lastore)) none = some j from hr)
  obtain rfl := Nat.eq_of_beq_eq_true hb1
  replace hj : mm_jst L st w = some (P, L', st', w') := hj
  unfold mm_jst at hj
  split at hj
  · rename_i x i k t
    obtain ⟨hb2, he⟩ := mm_cond_inv hj
    have hk : (mm_nth w.1 k).1 = 2 := Nat.eq_of_beq_eq_true hb2
    cases he
    have ha := hp.at (by rw [hk]; decide) (by rw [hk]; decide) (by rw [hk]; decide)
    rw [mm_cell2 hk] at ha
    refine va_last C.1 C.2.1 C.2.2.2.2.2.2.2.1 hp.1.1 mm_all_D hp.2.1 (k - 7) 2 ha rfl hP hd (fun H1 locs1 hP1 _ hS1 => kk _ _ _ _ _ hl (hp.sets (mm_off_J _) (by rw [hk]; decide) (by rw [hk]; decide) (by rw [hk]; decide) hP1 ?_ hS1))
    rw [mm_cell2 (w := (w.1, w.2.1, mm_uc w.2.2.1 k _, w.2.2.2)) hk]
    simp only [mm_uc_self]
  · cases hj
theorem mm_k_aastore (C : mm_Cx p R s m args meth c o ini cc nL D cT base ro) (hl : mm_LH (mm_ad base ro) ls nL L) (hp : mm_Pt D cT base ro s w0 H locs cells slots w) (hroom : w'.1.length ≤ w0.1.length + R.cells ∧ mm_sl w'.1 ≤ mm_sl w0.1 + R.slots) (hj : mm_seq j L st w = some (P, L', st', w')) (hP : P) (kk : mm_KK p l e R s m args below meth c Q nL D cT base ro w0 (pc + len) L' st' w') (hd : decode cc pc = .ok (.aastore, len)) (hr : mm_res o ini (.aastore) len = some j) : W p l e R s m args below meth c H locs cells slots Q (F0 m pc ls (st.map (mm_cv (mm_ad base ro)))) := by
  obtain ⟨hb1, rfl⟩ := mm_c1 (show cond (Nat.beq len 1) (some (Instr.aastore)) none = some j from hr)
  obtain rfl := Nat.eq_of_beq_eq_true hb1
  replace hj : mm_rst L st w = some (P, L', st', w') := hj
  unfold mm_rst at hj
  split at hj
  · rename_i v i k t
    obtain ⟨hb2, he⟩ := mm_cond_inv hj
    simp only [Bool.and_eq_true] at hb2
    have hk : (mm_nth w.1 k).1 = 3 := Nat.eq_of_beq_eq_true hb2.1
    have hv : (mm_nth w.1 v).1 = 8 + 10 := Nat.eq_of_beq_eq_true hb2.2
    cases he
    have ha := hp.at (by rw [hk]; decide) (by rw [hk]; decide) (by rw [hk]; decide)
    rw [mm_cell3 hk] at ha
    have hv1 := hp.at (by rw [hv]; decide) (by rw [hv]; decide) (by rw [hv]; decide)
    rw [mm_cellO hv] at hv1
    refine va_astq C.1 C.2.1 C.2.2.2.2.2.2.2.1 hp.1.1 mm_all_D hp.2.1 (k - 7) 3 (v - 7) 8 ha (r := (RX8, TX8, 5)) rfl hv1 rfl hP hd (fun H1 locs1 hP1 _ hS1 => kk _ _ _ _ _ hl (hp.sets (mm_off_R _) (by rw [hk]; decide) (by rw [hk]; decide) (by rw [hk]; decide) hP1 ?_ hS1))
    rw [mm_cell3 (w := (w.1, w.2.1, w.2.2.1, mm_uc w.2.2.2 k _)) hk]
    simp only [mm_uc_self]
    congr 7
    funext q
    unfold va_up
    split <;> rfl
  · cases hj
end MMS
end
section
/-! fields, new cells, the JDK's own calls: the rest of the straight instructions -/
section MMC
variable {p : Program} {l : Launch} {e : Env} {R : Room} {s : State} {m : MethodId} {args : Array Value} {below : List Frame} {meth : Method} {c : Code} {H : Heap} {locs : List Loc} {cells slots : Nat} {Q : State → Prop}
variable {cc : ByteArray} {pc len nL o : Nat} {ini : Bool} {ls : Array Slot} {L L' : mm_L} {st st' : List Value} {w w' w0 : mm_W} {D : va_G} {cT : Nat → ClassId} {base : Nat} {ro : Nat → Nat} {P : Prop} {j : Instr}
theorem mm_dm {a b : Nat} (h : b < 64) : (a * 64 + b) / 64 = a ∧ (a * 64 + b) % 64 = b := by omega
theorem mm_k_getfield {x : Nat} (C : mm_Cx p R s m args meth c o ini cc nL D cT base ro) (hl : mm_LH (mm_ad base ro) ls nL L) (hp : mm_Pt D cT base ro s w0 H locs cells slots w) (hroom : w'.1.length ≤ w0.1.length + R.cells ∧ mm_sl w'.1 ≤ mm_sl w0.1 + R.slots) (hj : mm_seq j L st w = some (P, L', st', w')) (hP : P) (kk : mm_KK p l e R s m args below meth c Q nL D cT base ro w0 (pc + len) L' st' w') (hd : decode cc pc = .ok (.getfield x, len)) (hr : mm_res o ini (.getfield x) len = some j) : W p l e R s m args below meth c H locs cells slots Q (F0 m pc ls (st.map (mm_cv (mm_ad base ro)))) := by
  obtain ⟨hb1, hr⟩ := mm_c2' (show cond (Nat.beq len 3) ((mm_look mm_fldL o x).map fun q => Instr.getfield (q.1 * 64 + q.2)) none = some j from hr)
  obtain rfl := Nat.eq_of_beq_eq_true hb1
  obtain ⟨q, hz, rfl⟩ := Option.map_eq_some_iff.mp hr
  obtain ⟨n, hn⟩ := mm_look_in hz
  obtain ⟨g1, g2, g3, g4⟩ := mm_fld_ok _ hn
  dsimp only at g1 g2 g3 g4
  have h48 := mm_n48 g2
  obtain ⟨d1, d2⟩ := mm_dm (a := q.1) (b := q.2) (by omega)
  replace hj : mm_gf (q.1 * 64 + q.2) L st w = some (P, L', st', w') := hj
  unfold mm_gf at hj
  rw [d1, d2] at hj
  split at hj
  · rename_i k t
    obtain ⟨hb2, he⟩ := mm_cond_inv hj
    have hk : (mm_nth w.1 k).1 = q.1 + 10 := Nat.eq_of_beq_eq_true hb2
    cases he
    have ha := hp.at (k := k) (by omega) (by omega) (by omega)
    rw [mm_cellO hk] at ha
    exact va_get C.1 C.2.1 C.2.2.2.2.1 (mm_uws g2) C.2.2.2.1 C.2.2.2.2.2.2.2.1 hp.1.1 (k - 7) ha (mm_vwCl g2) q.2 g1 (C.has g4 rfl) (fun y hy => by rw [g3] at hy; exact hy) (by rw [List.getElem?_map, List.getElem?_range g1]; rfl) hd (kk _ _ _ _ _ hl hp)
  · cases hj
theorem mm_pv_ok {ty : FieldType} {k f : Nat} {v : Value} {t : List Value} (hj : mm_pv ty k f v L t w = some (P, L', st', w')) (hP : P) :
    L' = L ∧ st' = t ∧ mm_off k w w' ∧ ∀ (ad : Nat → Nat), narrow ty (mm_cv ad v) = mm_cv ad v ∧ fits ty (mm_cv ad v) = true ∧ ∀ ci, mm_ty ci f = ty → ∀ i, mm_cv ad (mm_fa w' k ci i) = if i = f then mm_cv ad v else mm_cv ad (mm_fa w k ci i) := by
  unfold mm_pv at hj
  split at hj
  · cases hj
    refine ⟨rfl, rfl, mm_off_I _, fun ad => ⟨rfl, rfl, fun ci hc i => ?_⟩⟩
    by_cases hi : i = f
    · subst hi
      rw [if_pos rfl]
      unfold mm_fa
      rw [hc]
      simp only [mm_uc_self, upd, if_pos]
    · rw [if_neg hi]
      unfold mm_fa
      split <;> simp only [mm_uc_self, upd, if_neg hi]
  · cases hj
    refine ⟨rfl, rfl, mm_off_I _, fun ad => ⟨?_, ?_, fun ci hc i => ?_⟩⟩
    · rcases hP with rfl | rfl <;> rfl
    · rcases hP with rfl | rfl <;> rfl
    by_cases hi : i = f
    · subst hi
      rw [if_pos rfl]
      unfold mm_fa
      rw [hc]
      simp only [mm_uc_self, upd, if_pos]
    · rw [if_neg hi]
      unfold mm_fa
      split <;> simp only [mm_uc_self, upd, if_neg hi]
  · cases hj
    refine ⟨rfl, rfl, mm_off_J _, fun ad => ⟨rfl, rfl, fun ci hc i => ?_⟩⟩
    by_cases hi : i = f
    · subst hi
      rw [if_pos rfl]
      unfold mm_fa
      rw [hc]
      simp only [mm_uc_self, vp_updL, if_pos]
    · rw [if_neg hi]
      unfold mm_fa
      split <;> simp only [mm_uc_self, vp_updL, if_neg hi]
  · cases hj
    refine ⟨rfl, rfl, mm_off_R _, fun ad => ⟨rfl, rfl, fun ci hc i => ?_⟩⟩
    by_cases hi : i = f
    · subst hi
      rw [if_pos rfl]
      unfold mm_fa
      rw [hc]
      simp only [mm_uc_self, va_up, if_pos]
      rfl
    · rw [if_neg hi]
      unfold mm_fa
      split <;> simp only [mm_uc_self, va_up, if_neg hi]
  · cases hj
    refine ⟨rfl, rfl, mm_off_R _, fun ad => ⟨rfl, rfl, fun ci hc i => ?_⟩⟩
    by_cases hi : i = f
    · subst hi
      rw [if_pos rfl]
      unfold mm_fa
      rw [hc]
      simp only [mm_uc_self, va_up, if_pos]
      rfl
    · rw [if_neg hi]
      unfold mm_fa
      split <;> simp only [mm_uc_self, va_up, if_neg hi]
  · cases hj
theorem mm_k_putfield {x : Nat} (C : mm_Cx p R s m args meth c o ini cc nL D cT base ro) (hl : mm_LH (mm_ad base ro) ls nL L) (hp : mm_Pt D cT base ro s w0 H locs cells slots w) (hroom : w'.1.length ≤ w0.1.length + R.cells ∧ mm_sl w'.1 ≤ mm_sl w0.1 + R.slots) (hj : mm_seq j L st w = some (P, L', st', w')) (hP : P) (kk : mm_KK p l e R s m args below meth c Q nL D cT base ro w0 (pc + len) L' st' w') (hd : decode cc pc = .ok (.putfield x, len)) (hr : mm_res o ini (.putfield x) len = some j) : W p l e R s m args below meth c H locs cells slots Q (F0 m pc ls (st.map (mm_cv (mm_ad base ro)))) := by
  obtain ⟨hb1, hr⟩ := mm_c2' (show cond (Nat.beq len 3) ((mm_look mm_fldL o x).bind fun q => cond (!(mm_T q.1 q.2).2.2.2 || (ini && Nat.beq q.1 o)) (some (Instr.putfield (q.1 * 64 + q.2))) none) none = some j from hr)
  obtain rfl := Nat.eq_of_beq_eq_true hb1
  obtain ⟨q, hz, hr⟩ := Option.bind_eq_some_iff.mp hr
  obtain ⟨hb3, rfl⟩ := mm_c1 hr
  obtain ⟨n, hn⟩ := mm_look_in hz
  obtain ⟨g1, g2, g3, g4⟩ := mm_fld_ok _ hn
  dsimp only at g1 g2 g3 g4
  have h48 := mm_n48 g2
  obtain ⟨d1, d2⟩ := mm_dm (a := q.1) (b := q.2) (by omega)
  replace hj : mm_pf (q.1 * 64 + q.2) L st w = some (P, L', st', w') := hj
  unfold mm_pf at hj
  rw [d1, d2] at hj
  split at hj
  · rename_i v k t
    obtain ⟨hb2, he⟩ := mm_cond_inv hj
    have hk : (mm_nth w.1 k).1 = q.1 + 10 := Nat.eq_of_beq_eq_true hb2
    obtain ⟨rfl, rfl, ho, hv⟩ := mm_pv_ok he hP
    obtain ⟨v1, v2, v3⟩ := hv (mm_ad base ro)
    have ha := hp.at (k := k) (by omega) (by omega) (by omega)
    rw [mm_cellO hk] at ha
    have hset : ∀ (H1 : Heap) (locs1 : List Loc), va_P D vwCl ((mm_all cT base ro w).set (k - 7) (mm_ad base ro k, .inr (q.1, ((List.range (mm_n q.1)).map (fun j => mm_cv (mm_ad base ro) (mm_fa w k q.1 j))).set q.2 (mm_cv (mm_ad base ro) v)))) H1 → va_D (mm_A base) ((mm_all cT base ro w).set (k - 7) (mm_ad base ro k, .inr (q.1, ((List.range (mm_n q.1)).map (fun j => mm_cv (mm_ad base ro) (mm_fa w k q.1 j))).set q.2 (mm_cv (mm_ad base ro) v)))) → va_S (mm_A base) s.heap H1 locs1 → W p l e R s m args below meth c H1 locs1 cells slots Q (F0 m (pc + 3) ls (st'.map (mm_cv (mm_ad base ro)))) := by
      intro H1 locs1 hP1 _ hS1
      refine kk _ _ _ _ _ hl (hp.sets ho (by omega) (by omega) (by omega) hP1 ?_ hS1)
      rw [mm_range_set, mm_cellO (w := w') (ci := q.1) (by rw [ho.1]; exact hk)]
      congr 2
      apply List.map_congr_left
      intro i _
      exact (v3 q.1 rfl i).symm
    cases hf : (mm_T q.1 q.2).2.2.2 with
    | false => exact va_put C.1 C.2.1 C.2.2.2.2.1 (mm_uws g2) (mm_ty q.1) (mm_tyk g2) (mm_nmk g2) C.2.2.2.1 C.2.2.2.2.2.2.2.1 hp.1.1 mm_all_D hp.2.1 (k - 7) ha (mm_vwCl g2) q.2 g1 (C.has g4 rfl) (fun y hy => by rw [g3] at hy; exact hy) hf (mm_tyk g2 _ g1) v1 v2 (by simpa using g1) hd hset
    | true =>
      rw [hf] at hb3
      simp only [Bool.not_true, Bool.false_or, Bool.and_eq_true] at hb3
      have ho2 : q.1 = o := Nat.eq_of_beq_eq_true hb3.2
      exact va_putF C.1 C.2.1 C.2.2.2.2.1 (mm_uws g2) (mm_ty q.1) (mm_tyk g2) (mm_nmk g2) C.2.2.2.1 C.2.2.2.2.2.2.2.1 hp.1.1 mm_all_D hp.2.1 (k - 7) ha (mm_vwCl g2) q.2 g1 (C.has g4 rfl) (fun y hy => by rw [g3] at hy; exact hy) hf (C.2.2.2.2.2.2.1 hb3.1) (by rw [g3, ho2]) (mm_tyk g2 _ g1) v1 v2 (by simpa using g1) hd hset
  · cases hj
theorem mm_Pt.ge (hp : mm_Pt D cT base ro s w0 H locs cells slots w) {z : Nat} (hz : s.heap.size ≤ z) : base ≤ z := by
  have := hp.2.2.2.2
  omega
/-- a new cell lies behind the others -/
theorem mm_next {T : State} {cells1 : Nat} {locs1 : List Loc} {slots1 q : Nat} {ce : va_E} (hp : mm_Pt D cT base ro s w0 H locs cells slots w) (hc : cells1 = cells + 1) (X : Stand p l e R s m args below meth c T locs1 cells1 slots1) (hP : va_P D vwCl (mm_all cT base ro w ++ [(q, ce)]) T.heap) (hD : va_D (mm_A base) (mm_all cT base ro w ++ [(q, ce)])) : q = base + (w.1.length - 7) := by
  have hll : (mm_all cT base ro w).length = w.1.length - 7 := by simp [mm_all]
  have hq : (mm_all cT base ro w ++ [(q, ce)])[w.1.length - 7]? = some (q, ce) := by rw [List.getElem?_append_right (by omega), hll, Nat.sub_self]; rfl
  have h1 : base ≤ q := hD.2 _ _ hq
  have h2 : q < T.heap.size := (hP _ _ hq).lt
  have h3 := X.heapSize
  have h4 := hp.2.2.1
  have h5 := hp.2.2.2.2.1
  have h6 := hp.1.2.1
  rcases Nat.lt_or_ge q (base + (w.1.length - 7)) with h | h
  · have ha := mm_all_at (cT := cT) (base := base) (ro := ro) (w := w) (k := (q - base) + 7) (by omega) (by omega)
    rw [show q - base + 7 - 7 = q - base by omega] at ha
    have hb : (mm_all cT base ro w ++ [(q, ce)])[q - base]? = some (mm_ad base ro (q - base + 7), mm_cell cT (mm_ad base ro) w (q - base + 7)) := by rw [List.getElem?_append_left (by omega)]; exact ha
    have := hD.1 _ _ _ _ hq hb (by show q = mm_ad base ro (q - base + 7); rw [mm_ad7 (by omega)]; omega)
    omega
  · omega
theorem mm_grown (hp : mm_Pt D cT base ro s w0 H locs cells slots w) {H1 : Heap} {x : Nat × Nat} {I : Nat → Nat → Int32} {J : Nat → Nat → Int64} {G : Nat → Nat → Option Nat} {ce : va_E} (hw : w' = (w.1 ++ [x], I, J, G)) (hI : ∀ a, a < w.1.length → I a = w.2.1 a ∧ J a = w.2.2.1 a ∧ G a = w.2.2.2 a) (hx : x.1 ≠ 4 ∧ x.1 ≠ 5) (hce : ce = mm_cell cT (mm_ad base ro) w' w.1.length)
    (hP : va_P D vwCl (mm_all cT base ro w ++ [(base + (w.1.length - 7), ce)]) H1) (hS : va_S (mm_A base) s.heap H1 locs) : mm_Pt D cT base ro s w0 H1 locs (cells + 1) (slots + x.2) w' := by
  have h7 := hp.1.2.1
  have hlen : w'.1.length = w.1.length + 1 := by rw [hw]; simp
  have hn : ∀ a, a < w.1.length → mm_nth w'.1 a = mm_nth w.1 a := fun a ha => by rw [hw]; exact mm_nth_app ha
  have hs : ∀ a, a < w.1.length → w'.2.1 a = w.2.1 a ∧ w'.2.2.1 a = w.2.2.1 a ∧ w'.2.2.2 a = w.2.2.2 a := fun a ha => by rw [hw]; exact hI a ha
  rw [hce, ← mm_all_push hlen h7 (fun a ha => by obtain ⟨q1, q2, q3⟩ := hs a ha; exact mm_cell_eq (hn a ha) q1 q2 q3)] at hP
  refine ⟨⟨hP, by omega, fun k hk => ?_, fun k hk => ?_⟩, hS, by have := hp.2.2.1; omega, ?_, hp.2.2.2.2⟩
  · obtain ⟨q1, q2, -⟩ := hs k (by omega)
    rw [hn k (by omega), q1, q2]
    exact hp.1.2.2.1 k hk
  · rcases Nat.lt_or_ge k w.1.length with h | h
    · rw [hn k h]; exact hp.1.2.2.2 k hk
    · rcases Nat.lt_or_ge w.1.length k with h2 | h2
      · rw [mm_nth_out (by omega)]; exact ⟨by decide, by decide⟩
      · obtain rfl : k = w.1.length := by omega
        rw [hw, mm_nth_end]; exact hx
  · rw [hw, mm_sl_app]
    have := hp.2.2.2.1
    omega
theorem mm_k_new {x : Nat} (C : mm_Cx p R s m args meth c o ini cc nL D cT base ro) (hl : mm_LH (mm_ad base ro) ls nL L) (hp : mm_Pt D cT base ro s w0 H locs cells slots w) (hroom : w'.1.length ≤ w0.1.length + R.cells ∧ mm_sl w'.1 ≤ mm_sl w0.1 + R.slots) (hj : mm_seq j L st w = some (P, L', st', w')) (hP : P) (kk : mm_KK p l e R s m args below meth c Q nL D cT base ro w0 (pc + len) L' st' w') (hd : decode cc pc = .ok (.new x, len)) (hr : mm_res o ini (.new x) len = some j) : W p l e R s m args below meth c H locs cells slots Q (F0 m pc ls (st.map (mm_cv (mm_ad base ro)))) := by
  obtain ⟨hb1, hr⟩ := mm_c2' (show cond (Nat.beq len 3) ((mm_look mm_claL o x).map Instr.new) none = some j from hr)
  obtain rfl := Nat.eq_of_beq_eq_true hb1
  obtain ⟨q, hz, rfl⟩ := Option.map_eq_some_iff.mp hr
  obtain ⟨n, hn⟩ := mm_look_in hz
  obtain ⟨g1, g2, g3, g4⟩ := mm_cla_ok _ hn
  dsimp only at g1 g2 g3 g4
  cases hj
  have hr1 := hroom.1
  have hr2 := hroom.2
  simp only [List.length_append, List.length_cons, List.length_nil] at hr1
  rw [mm_sl_app] at hr2
  have hc1 := hp.2.2.1
  have hs1 := hp.2.2.2.1
  refine va_new C.1 C.2.1 C.2.2.2.2.1 (mm_uws g1) (mm_ty q) (mm_tyk g1) C.2.2.2.1 (C.has g2 rfl) (C.2.2.2.2.1 _ (List.mem_filter.mpr ⟨g3, rfl⟩)) (C.2.2.2.2.1 _ (List.mem_filter.mpr ⟨g4, rfl⟩)) C.2.2.2.2.2.2.2.1 hp.1.1 mm_all_D hp.2.1 (fun z hz => ?_) (mm_vwCl g1) (fs := (List.range (mm_n q)).map (fun j => mm_zv (mm_ty q j))) (fun j hj => ?_) (by omega) (by omega) hd (fun z H1 hP1 hD1 hS1 => ?_)
  · exact mm_Pt.ge hp hz
  · rw [mm_zv_ok q (List.mem_range.mpr g1) j (List.mem_range.mpr hj)]
    unfold vp_V
    simp [hj]
  · intro T hT X
    have e1 := mm_next hp rfl X (by rw [hT]; exact hP1) hD1
    subst e1
    have k1 := kk H1 locs (cells + 1) (slots + mm_n q) ls hl (mm_grown hp rfl (fun a ha => ⟨mm_uc_ne _ _ (by omega), mm_uc_ne _ _ (by omega), mm_uc_ne _ _ (by omega)⟩) ⟨by show q + 10 ≠ 4; omega, by show q + 10 ≠ 5; omega⟩ ?_ hP1 hS1)
    · rw [List.map_cons, show mm_cv (mm_ad base ro) (.ref w.1.length) = .ref (base + (w.1.length - 7)) from congrArg Value.ref (mm_ad7 hp.1.2.1)] at k1
      exact k1 T hT X
    · rw [mm_cellO (ci := q) (by rw [mm_nth_end])]
      congr 2
      apply List.map_congr_left
      intro i _
      unfold mm_fa mm_zv
      simp only [mm_uc_self]
      cases mm_ty q i <;> rfl

/-- what comes back behind a made array -/
theorem mm_newarr {kd : Nat} {q N : Nat} {H1 : Heap} {pc' : Nat} {t : List Value} {ce : va_E} (hp : mm_Pt D cT base ro s w0 H locs cells slots w) (hl : mm_LH (mm_ad base ro) ls nL L) (hkd : kd < 4)
    (kk : mm_KK p l e R s m args below meth c Q nL D cT base ro w0 pc' L (.ref w.1.length :: t) ((w.1 ++ [(kd, N)], mm_uc w.2.1 w.1.length (fun _ => 0), mm_uc w.2.2.1 w.1.length (fun _ => 0), mm_uc w.2.2.2 w.1.length (fun _ => none)) : mm_W))
    (hce : ce = mm_cell cT (mm_ad base ro) ((w.1 ++ [(kd, N)], mm_uc w.2.1 w.1.length (fun _ => 0), mm_uc w.2.2.1 w.1.length (fun _ => 0), mm_uc w.2.2.2 w.1.length (fun _ => none)) : mm_W) w.1.length)
    (hP1 : va_P D vwCl (mm_all cT base ro w ++ [(q, ce)]) H1) (hD1 : va_D (mm_A base) (mm_all cT base ro w ++ [(q, ce)])) (hS1 : va_S (mm_A base) s.heap H1 locs) : W p l e R s m args below meth c H1 locs (cells + 1) (slots + N) Q (F0 m pc' ls (.ref q :: t.map (mm_cv (mm_ad base ro)))) := by
  intro T hT X
  have e1 := mm_next hp rfl X (by rw [hT]; exact hP1) hD1
  subst e1
  have k1 := kk H1 locs (cells + 1) (slots + N) ls hl (mm_grown hp rfl (fun a ha => ⟨mm_uc_ne _ _ (by omega), mm_uc_ne _ _ (by omega), mm_uc_ne _ _ (by omega)⟩) ⟨by show kd ≠ 4; omega, by show kd ≠ 5; omega⟩ hce hP1 hS1)
  rw [List.map_cons, show mm_cv (mm_ad base ro) (.ref w.1.length) = .ref (base + (w.1.length - 7)) from congrArg Value.ref (mm_ad7 hp.1.2.1)] at k1
  exact k1 T hT X
theorem mm_same_c {k : Nat} {cA : ClassId} {ty : FieldType} (hK : va_K D vwCl (mm_tys cT ++ [(cA, ty)]) s) (h : (mm_tys cT)[k]? = some (cT k, ty)) : cA = cT k := by
  have hl : (mm_tys cT).length = 4 := rfl
  have hk : k < 4 := by
    rw [← hl]
    exact (List.getElem?_eq_some_iff.mp h).1
  have h1 := (hK.2 4 (cA, ty) (by rw [List.getElem?_append_right (by omega)]; rfl)).2
  have h2 := (hK.2 k (cT k, ty) (by rw [List.getElem?_append_left (by omega)]; exact h)).2
  cases ty with
  | object C =>
    obtain ⟨kA, comp, -, -, -, a⟩ := h1
    obtain ⟨kB, comp2, -, -, -, b⟩ := h2
    exact Option.some.inj (a.symm.trans b)
  | _ => exact Option.some.inj (Eq.trans (Eq.symm h1) h2)

theorem mm_k_newarray {x : ArrayType} (C : mm_Cx p R s m args meth c o ini cc nL D cT base ro) (hl : mm_LH (mm_ad base ro) ls nL L) (hp : mm_Pt D cT base ro s w0 H locs cells slots w) (hroom : w'.1.length ≤ w0.1.length + R.cells ∧ mm_sl w'.1 ≤ mm_sl w0.1 + R.slots) (hj : mm_seq j L st w = some (P, L', st', w')) (hP : P) (kk : mm_KK p l e R s m args below meth c Q nL D cT base ro w0 (pc + len) L' st' w') (hd : decode cc pc = .ok (.newarray x, len)) (hr : mm_res o ini (.newarray x) len = some j) : W p l e R s m args below meth c H locs cells slots Q (F0 m pc ls (st.map (mm_cv (mm_ad base ro)))) := by
  obtain ⟨hb1, rfl⟩ := mm_c1 (show cond (Nat.beq len 2) (some (Instr.newarray x)) none = some j from hr)
  obtain rfl := Nat.eq_of_beq_eq_true hb1
  have hr1 := hroom.1
  have hr2 := hroom.2
  have hc1 := hp.2.2.1
  have hs1 := hp.2.2.2.1
  replace hj : mm_nat x L st w = some (P, L', st', w') := hj
  unfold mm_nat at hj
  split at hj
  · obtain ⟨n, t, rfl, he⟩ := mm_na_inv (kd := 0) hj
    cases he
    simp only [List.length_append, List.length_cons, List.length_nil] at hr1
    rw [mm_sl_app] at hr2
    refine va_newa (atype := .int) C.1 C.2.1 (C.has (n := 115) (x := .arrayClass .int) (by decide +kernel) rfl) (ty := .int) rfl C.2.2.2.2.2.2.2.1 hp.1.1 mm_all_D hp.2.1 (fun z hz => mm_Pt.ge hp hz) (N' := n.toNatClampNeg) (a0 := (n.toNatClampNeg, .inl (fun _ => 0))) (fun cA => rfl) hP.1 rfl (by have := hP.2; show n.toNatClampNeg * 4 ≤ _; omega) (by omega) (by omega) hd (fun z cA H1 hK1 hP1 hD1 hS1 => ?_)
    obtain rfl := mm_same_c (k := 0) hK1 rfl
    refine mm_newarr (kd := 0) hp hl (by decide) kk ?_ hP1 hD1 hS1
    rw [mm_cell0 (by rw [mm_nth_end])]
    simp only [mm_uc_self, mm_nth_end]
  · obtain ⟨n, t, rfl, he⟩ := mm_na_inv (kd := 1) hj
    cases he
    simp only [List.length_append, List.length_cons, List.length_nil] at hr1
    rw [mm_sl_app] at hr2
    refine va_newa (atype := .boolean) C.1 C.2.1 (C.has (n := 1338) (x := .arrayClass .boolean) (by decide +kernel) rfl) (ty := .boolean) rfl C.2.2.2.2.2.2.2.1 hp.1.1 mm_all_D hp.2.1 (fun z hz => mm_Pt.ge hp hz) (N' := n.toNatClampNeg) (a0 := (n.toNatClampNeg, .inl (fun _ => 0))) (fun cA => rfl) hP.1 rfl (by have := hP.2; show n.toNatClampNeg * 1 ≤ _; omega) (by omega) (by omega) hd (fun z cA H1 hK1 hP1 hD1 hS1 => ?_)
    obtain rfl := mm_same_c (k := 1) hK1 rfl
    refine mm_newarr (kd := 1) hp hl (by decide) kk ?_ hP1 hD1 hS1
    rw [mm_cell1 (by rw [mm_nth_end])]
    simp only [mm_uc_self, mm_nth_end]
  · obtain ⟨n, t, rfl, he⟩ := mm_na_inv (kd := 2) hj
    cases he
    simp only [List.length_append, List.length_cons, List.length_nil] at hr1
    rw [mm_sl_app] at hr2
    refine va_newa (atype := .long) C.1 C.2.1 (C.has (n := 186) (x := .arrayClass .long) (by decide +kernel) rfl) (ty := .long) rfl C.2.2.2.2.2.2.2.1 hp.1.1 mm_all_D hp.2.1 (fun z hz => mm_Pt.ge hp hz) (N' := n.toNatClampNeg) (a0 := (n.toNatClampNeg, .inr (.inl (fun _ => 0)))) (fun cA => rfl) hP.1 rfl (by have := hP.2; show n.toNatClampNeg * 8 ≤ _; omega) (by omega) (by omega) hd (fun z cA H1 hK1 hP1 hD1 hS1 => ?_)
    obtain rfl := mm_same_c (k := 2) hK1 rfl
    refine mm_newarr (kd := 2) hp hl (by decide) kk ?_ hP1 hD1 hS1
    rw [mm_cell2 (by rw [mm_nth_end])]
    simp only [mm_uc_self, mm_nth_end]
  · cases hj
theorem mm_k_anewarray {x : Nat} (C : mm_Cx p R s m args meth c o ini cc nL D cT base ro) (hl : mm_LH (mm_ad base ro) ls nL L) (hp : mm_Pt D cT base ro s w0 H locs cells slots w) (hroom : w'.1.length ≤ w0.1.length + R.cells ∧ mm_sl w'.1 ≤ mm_sl w0.1 + R.slots) (hj : mm_seq j L st w = some (P, L', st', w')) (hP : P) (kk : mm_KK p l e R s m args below meth c Q nL D cT base ro w0 (pc + len) L' st' w') (hd : decode cc pc = .ok (.anewarray x, len)) (hr : mm_res o ini (.anewarray x) len = some j) : W p l e R s m args below meth c H locs cells slots Q (F0 m pc ls (st.map (mm_cv (mm_ad base ro)))) := by
  obtain ⟨hb1, hr⟩ := mm_c2' (show cond (Nat.beq len 3) ((mm_look mm_claL o x).bind fun q => cond (Nat.beq q 8) (some (Instr.anewarray q)) none) none = some j from hr)
  obtain rfl := Nat.eq_of_beq_eq_true hb1
  obtain ⟨q, hz, hr⟩ := Option.bind_eq_some_iff.mp hr
  obtain ⟨hb3, rfl⟩ := mm_c1 hr
  obtain rfl := Nat.eq_of_beq_eq_true hb3
  obtain ⟨n, hn⟩ := mm_look_in hz
  obtain ⟨g1, g2, g3, g4⟩ := mm_cla_ok _ hn
  have hr1 := hroom.1
  have hr2 := hroom.2
  have hc1 := hp.2.2.1
  have hs1 := hp.2.2.2.1
  obtain ⟨n, t, rfl, he⟩ := mm_na_inv (kd := 3) hj
  cases he
  simp only [List.length_append, List.length_cons, List.length_nil] at hr1
  rw [mm_sl_app] at hr2
  refine va_newq C.1 C.2.1 C.2.2.2.1 (C.has g2 rfl) C.2.2.2.2.2.2.2.2.2.1 C.2.2.2.2.2.2.2.1 hp.1.1 mm_all_D hp.2.1 (fun z hz => mm_Pt.ge hp hz) hP.1 rfl (by have := hP.2; omega) (by omega) (by omega) hd (fun z cA H1 hK1 hP1 hD1 hS1 => ?_)
  obtain rfl := mm_same_c (k := 3) hK1 rfl
  refine mm_newarr (kd := 3) hp hl (by decide) kk ?_ hP1 hD1 hS1
  rw [mm_cell3 (by rw [mm_nth_end])]
  simp only [mm_uc_self, mm_nth_end]
  rfl
theorem mm_cat_sum (ad : Nat → Nat) : ∀ st : List Value, ((st.map (mm_cv ad)).map fun v => v.category).sum = mm_cat st
  | [] => rfl
  | v :: t => by
    rw [List.map_cons, List.map_cons, List.sum_cons, mm_cat_sum ad t, mm_cv_cat]
    rfl
theorem mm_call_in {k y n : Nat} {x : Nat} (h : mm_look mm_calL o x = some (k, y, n)) : ∃ i : Nat, lw_tbl[i]? = some (mm_calC o x k y) ∧ y < mm_meL.length ∧ mm_calD k y n = true := by
  obtain ⟨i, hi⟩ := mm_look_in h
  exact ⟨i, mm_cal_ok _ hi, mm_cal_ok2 _ hi⟩
theorem mm_k_objInit {x y n : Nat} (C : mm_Cx p R s m args meth c o ini cc nL D cT base ro) (hl : mm_LH (mm_ad base ro) ls nL L) (hp : mm_Pt D cT base ro s w0 H locs cells slots w) (hroom : w'.1.length ≤ w0.1.length + R.cells ∧ mm_sl w'.1 ≤ mm_sl w0.1 + R.slots) (hj : mm_seq j L st w = some (P, L', st', w')) (hP : P) (kk : mm_KK p l e R s m args below meth c Q nL D cT base ro w0 (pc + len) L' st' w') (hd : decode cc pc = .ok (.invokespecial x, len)) (hb1 : Nat.beq len 3 = true) (hz : mm_look mm_calL o x = some (4, y, n)) (he : .monitorenter = j) : W p l e R s m args below meth c H locs cells slots Q (F0 m pc ls (st.map (mm_cv (mm_ad base ro)))) := by
  obtain rfl := Nat.eq_of_beq_eq_true hb1
  subst he
  obtain ⟨i, hi, -⟩ := mm_call_in hz
  replace hj : mm_oi L st w = some (P, L', st', w') := hj
  unfold mm_oi at hj
  split at hj
  · rename_i k t
    obtain ⟨hb2, he⟩ := mm_cond_inv hj
    have h8 : mm_cat t ≤ 8 := Nat.le_of_ble_eq_true hb2
    cases he
    refine W.objInit C.1 C.2.1 C.2.2.2.1 (C.has hi rfl) (C.has (n := 98) (x := .instanceMethod Lib.objectInit) (by decide +kernel) rfl) (C.has (n := 99) (x := .code Lib.objectInit ⟨#[0xb1]⟩ 1 none) (by decide +kernel) rfl) rfl (hl.1.trans C.2.2.1.symm) rfl hd C.2.2.2.2.2.2.2.2.2.2.1 ?_ (kk _ _ _ _ _ hl hp)
    rw [mm_cat_sum]
    have := C.2.2.2.2.2.2.2.2.2.2.2
    show 2 * 0 + _ + 12 ≤ _
    omega
  · cases hj
theorem mm_k_math0 {x y n : Nat} (C : mm_Cx p R s m args meth c o ini cc nL D cT base ro) (hl : mm_LH (mm_ad base ro) ls nL L) (hp : mm_Pt D cT base ro s w0 H locs cells slots w) (hroom : w'.1.length ≤ w0.1.length + R.cells ∧ mm_sl w'.1 ≤ mm_sl w0.1 + R.slots) (hj : mm_seq j L st w = some (P, L', st', w')) (hP : P) (kk : mm_KK p l e R s m args below meth c Q nL D cT base ro w0 (pc + len) L' st' w') (hd : decode cc pc = .ok (.invokestatic x, len)) (hb1 : Nat.beq len 3 = true) (hz : mm_look mm_calL o x = some (6, y, n)) (he : .ldc 0 = j) : W p l e R s m args below meth c H locs cells slots Q (F0 m pc ls (st.map (mm_cv (mm_ad base ro)))) := by
  obtain rfl := Nat.eq_of_beq_eq_true hb1
  subst he
  obtain ⟨i, hi, -⟩ := mm_call_in hz
  replace hj : mm_ma 0 L st w = some (P, L', st', w') := hj
  have hro := C.2.2.2.2.2.2.2.2.2.2.2
  have hr1 := hroom.1
  have hr2 := hroom.2
  have hc1 := hp.2.2.1
  have hs1 := hp.2.2.2.1
  unfold mm_ma at hj
  split at hj
  · rename_i t _
    obtain ⟨hb2, he⟩ := mm_cond_inv hj
    have h8 : mm_cat t ≤ 8 := Nat.le_of_ble_eq_true hb2
    cases he
    exact va_mmax C.1 C.2.1 (C.2.2.1.trans hl.1.symm) C.2.2.2.1 (C.has hi rfl) (C.has (n := 596) (x := .static Lib.Math.max.name) (by decide +kernel) rfl) (C.has (n := 90) (x := .initialized "java/lang/Math") (by decide +kernel) rfl) (C.has (n := 597) (x := .code Lib.Math.max.name Lib.Math.max.code 2 (some .int)) (by decide +kernel) rfl) C.2.2.2.2.2.2.2.2.2.2.1 (by rw [mm_cat_sum]; omega) (by omega) (by omega) hd (kk _ _ _ _ _ hl hp)
  · first | cases hj | contradiction
  · first | cases hj | contradiction
  · first | cases hj | contradiction
  · first | cases hj | contradiction
theorem mm_k_math1 {x y n : Nat} (C : mm_Cx p R s m args meth c o ini cc nL D cT base ro) (hl : mm_LH (mm_ad base ro) ls nL L) (hp : mm_Pt D cT base ro s w0 H locs cells slots w) (hroom : w'.1.length ≤ w0.1.length + R.cells ∧ mm_sl w'.1 ≤ mm_sl w0.1 + R.slots) (hj : mm_seq j L st w = some (P, L', st', w')) (hP : P) (kk : mm_KK p l e R s m args below meth c Q nL D cT base ro w0 (pc + len) L' st' w') (hd : decode cc pc = .ok (.invokestatic x, len)) (hb1 : Nat.beq len 3 = true) (hz : mm_look mm_calL o x = some (7, y, n)) (he : .ldc 1 = j) : W p l e R s m args below meth c H locs cells slots Q (F0 m pc ls (st.map (mm_cv (mm_ad base ro)))) := by
  obtain rfl := Nat.eq_of_beq_eq_true hb1
  subst he
  obtain ⟨i, hi, -⟩ := mm_call_in hz
  replace hj : mm_ma 1 L st w = some (P, L', st', w') := hj
  have hro := C.2.2.2.2.2.2.2.2.2.2.2
  have hr1 := hroom.1
  have hr2 := hroom.2
  have hc1 := hp.2.2.1
  have hs1 := hp.2.2.2.1
  unfold mm_ma at hj
  split at hj
  · first | cases hj | contradiction
  · rename_i t _
    obtain ⟨hb2, he⟩ := mm_cond_inv hj
    have h8 : mm_cat t ≤ 8 := Nat.le_of_ble_eq_true hb2
    cases he
    exact va_mabs C.1 C.2.1 (C.2.2.1.trans hl.1.symm) C.2.2.2.1 (C.has hi rfl) (C.has (n := 606) (x := .static Lib.Math.abs.name) (by decide +kernel) rfl) (C.has (n := 90) (x := .initialized "java/lang/Math") (by decide +kernel) rfl) (C.has (n := 607) (x := .code Lib.Math.abs.name Lib.Math.abs.code 1 (some .int)) (by decide +kernel) rfl) C.2.2.2.2.2.2.2.2.2.2.1 (by rw [mm_cat_sum]; omega) (by omega) (by omega) hd (kk _ _ _ _ _ hl hp)
  · first | cases hj | contradiction
  · first | cases hj | contradiction
  · first | cases hj | contradiction
theorem mm_k_math2 {x y n : Nat} (C : mm_Cx p R s m args meth c o ini cc nL D cT base ro) (hl : mm_LH (mm_ad base ro) ls nL L) (hp : mm_Pt D cT base ro s w0 H locs cells slots w) (hroom : w'.1.length ≤ w0.1.length + R.cells ∧ mm_sl w'.1 ≤ mm_sl w0.1 + R.slots) (hj : mm_seq j L st w = some (P, L', st', w')) (hP : P) (kk : mm_KK p l e R s m args below meth c Q nL D cT base ro w0 (pc + len) L' st' w') (hd : decode cc pc = .ok (.invokestatic x, len)) (hb1 : Nat.beq len 3 = true) (hz : mm_look mm_calL o x = some (8, y, n)) (he : .ldc 2 = j) : W p l e R s m args below meth c H locs cells slots Q (F0 m pc ls (st.map (mm_cv (mm_ad base ro)))) := by
  obtain rfl := Nat.eq_of_beq_eq_true hb1
  subst he
  obtain ⟨i, hi, -⟩ := mm_call_in hz
  replace hj : mm_ma 2 L st w = some (P, L', st', w') := hj
  have hro := C.2.2.2.2.2.2.2.2.2.2.2
  have hr1 := hroom.1
  have hr2 := hroom.2
  have hc1 := hp.2.2.1
  have hs1 := hp.2.2.2.1
  unfold mm_ma at hj
  split at hj
  · first | cases hj | contradiction
  · first | cases hj | contradiction
  · rename_i t _
    obtain ⟨hb2, he⟩ := mm_cond_inv hj
    have h8 : mm_cat t ≤ 8 := Nat.le_of_ble_eq_true hb2
    cases he
    exact va_mmin C.1 C.2.1 (C.2.2.1.trans hl.1.symm) C.2.2.2.1 (C.has hi rfl) (C.has (n := 609) (x := .static Lib.Math.min.name) (by decide +kernel) rfl) (C.has (n := 90) (x := .initialized "java/lang/Math") (by decide +kernel) rfl) (C.has (n := 610) (x := .code Lib.Math.min.name Lib.Math.min.code 2 (some .int)) (by decide +kernel) rfl) C.2.2.2.2.2.2.2.2.2.2.1 (by rw [mm_cat_sum]; omega) (by omega) (by omega) hd (kk _ _ _ _ _ hl hp)
  · first | cases hj | contradiction
  · first | cases hj | contradiction
theorem mm_k_math3 {x y n : Nat} (C : mm_Cx p R s m args meth c o ini cc nL D cT base ro) (hl : mm_LH (mm_ad base ro) ls nL L) (hp : mm_Pt D cT base ro s w0 H locs cells slots w) (hroom : w'.1.length ≤ w0.1.length + R.cells ∧ mm_sl w'.1 ≤ mm_sl w0.1 + R.slots) (hj : mm_seq j L st w = some (P, L', st', w')) (hP : P) (kk : mm_KK p l e R s m args below meth c Q nL D cT base ro w0 (pc + len) L' st' w') (hd : decode cc pc = .ok (.invokestatic x, len)) (hb1 : Nat.beq len 3 = true) (hz : mm_look mm_calL o x = some (9, y, n)) (he : .ldc 3 = j) : W p l e R s m args below meth c H locs cells slots Q (F0 m pc ls (st.map (mm_cv (mm_ad base ro)))) := by
  obtain rfl := Nat.eq_of_beq_eq_true hb1
  subst he
  obtain ⟨i, hi, -⟩ := mm_call_in hz
  replace hj : mm_ma 3 L st w = some (P, L', st', w') := hj
  have hro := C.2.2.2.2.2.2.2.2.2.2.2
  have hr1 := hroom.1
  have hr2 := hroom.2
  have hc1 := hp.2.2.1
  have hs1 := hp.2.2.2.1
  unfold mm_ma at hj
  split at hj
  · first | cases hj | contradiction
  · first | cases hj | contradiction
  · first | cases hj | contradiction
  · rename_i t _
    obtain ⟨hb2, he⟩ := mm_cond_inv hj
    have h8 : mm_cat t ≤ 8 := Nat.le_of_ble_eq_true hb2
    cases he
    exact va_mmin_long C.1 C.2.1 (C.2.2.1.trans hl.1.symm) C.2.2.2.1 (C.has hi rfl) (C.has (n := 731) (x := .static Lib.MathLoose.min_long.x) (by decide +kernel) rfl) (C.has (n := 90) (x := .initialized "java/lang/Math") (by decide +kernel) rfl) (C.has (n := 732) (x := .code Lib.MathLoose.min_long.x Lib.MathLoose.min_long.code 4 (some .long)) (by decide +kernel) rfl) C.2.2.2.2.2.2.2.2.2.2.1 (by rw [mm_cat_sum]; omega) (by omega) (by omega) hd (kk _ _ _ _ _ hl hp)
  · first | cases hj | contradiction
theorem mm_k_copy {x y n : Nat} (C : mm_Cx p R s m args meth c o ini cc nL D cT base ro) (hl : mm_LH (mm_ad base ro) ls nL L) (hp : mm_Pt D cT base ro s w0 H locs cells slots w) (hroom : w'.1.length ≤ w0.1.length + R.cells ∧ mm_sl w'.1 ≤ mm_sl w0.1 + R.slots) (hj : mm_seq j L st w = some (P, L', st', w')) (hP : P) (kk : mm_KK p l e R s m args below meth c Q nL D cT base ro w0 (pc + len) L' st' w') (hd : decode cc pc = .ok (.invokestatic x, len)) (hb1 : Nat.beq len 3 = true) (hz : mm_look mm_calL o x = some (5, y, n)) (he : .monitorexit = j) : W p l e R s m args below meth c H locs cells slots Q (F0 m pc ls (st.map (mm_cv (mm_ad base ro)))) := by
  obtain rfl := Nat.eq_of_beq_eq_true hb1
  subst he
  obtain ⟨i, hi, -⟩ := mm_call_in hz
  replace hj : mm_ac L st w = some (P, L', st', w') := hj
  have hro := C.2.2.2.2.2.2.2.2.2.2.2
  unfold mm_ac at hj
  split at hj
  · rename_i n dp b sp a t
    obtain ⟨hb2, he⟩ := mm_cond_inv hj
    have h8 : mm_cat t ≤ 8 := Nat.le_of_ble_eq_true hb2
    have hro2 : ((t.map (mm_cv (mm_ad base ro))).map fun v => v.category).sum + (nativeFrameWords "java/lang/System" "arraycopy" 5 + 11) ≤ R.locals := by
      rw [mm_cat_sum]
      have : nativeFrameWords "java/lang/System" "arraycopy" 5 + 11 ≤ 90 := by decide +kernel
      omega
    cases hq : (Nat.beq (mm_nth w.1 a).1 0 && Nat.beq (mm_nth w.1 b).1 0) with
    | true =>
      rw [hq] at he
      simp only [Bool.and_eq_true] at hq
      have hka : (mm_nth w.1 a).1 = 0 := Nat.eq_of_beq_eq_true hq.1
      have hkb : (mm_nth w.1 b).1 = 0 := Nat.eq_of_beq_eq_true hq.2
      cases he
      have h1 := hp.at (by rw [hka]; decide) (by rw [hka]; decide) (by rw [hka]; decide)
      have h2 := hp.at (by rw [hkb]; decide) (by rw [hkb]; decide) (by rw [hkb]; decide)
      rw [mm_cell0 hka] at h1
      rw [mm_cell0 hkb] at h2
      refine va_copyi C.1 C.2.1 (C.2.2.1.trans hl.1.symm) C.2.2.2.1 (C.has hi rfl) (C.has (n := 476) (x := .native arraycopyName) (by decide +kernel) rfl) (C.has (n := 475) (x := .static arraycopyName) (by decide +kernel) rfl) (C.has (n := 89) (x := .initialized "java/lang/System") (by decide +kernel) rfl) C.2.2.2.2.2.2.2.1 hp.1.1 mm_all_D hp.2.1 (a - 7) (b - 7) 0 0 h1 h2 rfl rfl rfl hP.1.1 hP.1.2.1 hP.1.2.2 hP.2.1 hP.2.2 (fun i _ => rfl) C.2.2.2.2.2.2.2.2.2.2.1 hro2 hd (fun H1 locs1 hP1 _ hS1 => kk _ _ _ _ _ hl (hp.sets (mm_off_I _) (by rw [hkb]; decide) (by rw [hkb]; decide) (by rw [hkb]; decide) hP1 ?_ hS1))
      rw [mm_cell0 (w := (w.1, mm_uc w.2.1 b _, w.2.2)) hkb]
      simp only [mm_uc_self]
    | false =>
      rw [hq] at he
      obtain ⟨hb3, he⟩ := mm_cond_inv he
      simp only [Bool.and_eq_true] at hb3
      have hka : (mm_nth w.1 a).1 = 2 := Nat.eq_of_beq_eq_true hb3.1
      have hkb : (mm_nth w.1 b).1 = 2 := Nat.eq_of_beq_eq_true hb3.2
      cases he
      have h1 := hp.at (by rw [hka]; decide) (by rw [hka]; decide) (by rw [hka]; decide)
      have h2 := hp.at (by rw [hkb]; decide) (by rw [hkb]; decide) (by rw [hkb]; decide)
      rw [mm_cell2 hka] at h1
      rw [mm_cell2 hkb] at h2
      refine va_copyl C.1 C.2.1 (C.2.2.1.trans hl.1.symm) C.2.2.2.1 (C.has hi rfl) (C.has (n := 476) (x := .native arraycopyName) (by decide +kernel) rfl) (C.has (n := 475) (x := .static arraycopyName) (by decide +kernel) rfl) (C.has (n := 89) (x := .initialized "java/lang/System") (by decide +kernel) rfl) C.2.2.2.2.2.2.2.1 hp.1.1 mm_all_D hp.2.1 (a - 7) (b - 7) 2 2 h1 h2 rfl rfl rfl hP.1.1 hP.1.2.1 hP.1.2.2 hP.2.1 hP.2.2 (fun i _ => rfl) C.2.2.2.2.2.2.2.2.2.2.1 hro2 hd (fun H1 locs1 hP1 _ hS1 => kk _ _ _ _ _ hl (hp.sets (mm_off_J _) (by rw [hkb]; decide) (by rw [hkb]; decide) (by rw [hkb]; decide) hP1 ?_ hS1))
      rw [mm_cell2 (w := (w.1, w.2.1, mm_uc w.2.2.1 b _, w.2.2.2)) hkb]
      simp only [mm_uc_self]
  · cases hj
end MMC
end
section
/-! the pure machine is sound: what it says of a method is so of the machine -/
section MMX
variable {p : Program} {l : Launch} {e : Env} {R : Room} {s : State} {m : MethodId} {args : Array Value} {below : List Frame} {meth : Method} {c : Code} {H : Heap} {locs : List Loc} {cells slots : Nat} {Q : State → Prop}
variable {cc : ByteArray} {pc len nL o : Nat} {ini : Bool} {ls : Array Slot} {L L' : mm_L} {st st' : List Value} {w w' w0 : mm_W} {D : va_G} {cT : Nat → ClassId} {base : Nat} {ro : Nat → Nat} {P : Prop} {i j : Instr}
theorem mm_seq_ok (C : mm_Cx p R s m args meth c o ini cc nL D cT base ro) (hl : mm_LH (mm_ad base ro) ls nL L) (hp : mm_Pt D cT base ro s w0 H locs cells slots w) (hroom : w'.1.length ≤ w0.1.length + R.cells ∧ mm_sl w'.1 ≤ mm_sl w0.1 + R.slots) (hj : mm_seq j L st w = some (P, L', st', w')) (hP : P) (kk : mm_KK p l e R s m args below meth c Q nL D cT base ro w0 (pc + len) L' st' w') (hd : decode cc pc = .ok (i, len)) (hr : mm_res o ini i len = some j) : W p l e R s m args below meth c H locs cells slots Q (F0 m pc ls (st.map (mm_cv (mm_ad base ro)))) := by
  cases i with
  | iconst n => exact mm_k_iconst C hl hp hroom hj hP kk hd hr
  | bipush n => exact mm_k_bipush C hl hp hroom hj hP kk hd hr
  | sipush n => exact mm_k_sipush C hl hp hroom hj hP kk hd hr
  | ldc n => exact mm_k_ldc C hl hp hroom hj hP kk hd hr
  | ldc_w n => exact mm_k_ldc_w C hl hp hroom hj hP kk hd hr
  | iload_n n => exact mm_k_iload_n C hl hp hroom hj hP kk hd hr
  | iload n => exact mm_k_iload C hl hp hroom hj hP kk hd hr
  | lload_n n => exact mm_k_lload_n C hl hp hroom hj hP kk hd hr
  | lload n => exact mm_k_lload C hl hp hroom hj hP kk hd hr
  | aload_n n => exact mm_k_aload_n C hl hp hroom hj hP kk hd hr
  | aload n => exact mm_k_aload C hl hp hroom hj hP kk hd hr
  | istore_n n => exact mm_k_istore_n C hl hp hroom hj hP kk hd hr
  | istore n => exact mm_k_istore C hl hp hroom hj hP kk hd hr
  | lstore_n n => exact mm_k_lstore_n C hl hp hroom hj hP kk hd hr
  | lstore n => exact mm_k_lstore C hl hp hroom hj hP kk hd hr
  | astore_n n => exact mm_k_astore_n C hl hp hroom hj hP kk hd hr
  | astore n => exact mm_k_astore C hl hp hroom hj hP kk hd hr
  | getstatic n => exact mm_k_getstatic C hl hp hroom hj hP kk hd hr
  | getfield n => exact mm_k_getfield C hl hp hroom hj hP kk hd hr
  | putfield n => exact mm_k_putfield C hl hp hroom hj hP kk hd hr
  | new n => exact mm_k_new C hl hp hroom hj hP kk hd hr
  | newarray n => exact mm_k_newarray C hl hp hroom hj hP kk hd hr
  | anewarray n => exact mm_k_anewarray C hl hp hroom hj hP kk hd hr
  | lconst n => exact mm_k_lconst C hl hp hroom hj hP kk hd hr
  | ldc2_w n => exact mm_k_ldc2_w C hl hp hroom hj hP kk hd hr
  | iinc n d => exact mm_k_iinc C hl hp hroom hj hP kk hd hr
  | iadd => exact mm_k_iadd C hl hp hroom hj hP kk hd hr
  | isub => exact mm_k_isub C hl hp hroom hj hP kk hd hr
  | imul => exact mm_k_imul C hl hp hroom hj hP kk hd hr
  | idiv => exact mm_k_idiv C hl hp hroom hj hP kk hd hr
  | irem => exact mm_k_irem C hl hp hroom hj hP kk hd hr
  | ineg => exact mm_k_ineg C hl hp hroom hj hP kk hd hr
  | iand => exact mm_k_iand C hl hp hroom hj hP kk hd hr
  | ior => exact mm_k_ior C hl hp hroom hj hP kk hd hr
  | ixor => exact mm_k_ixor C hl hp hroom hj hP kk hd hr
  | ishl => exact mm_k_ishl C hl hp hroom hj hP kk hd hr
  | ishr => exact mm_k_ishr C hl hp hroom hj hP kk hd hr
  | iushr => exact mm_k_iushr C hl hp hroom hj hP kk hd hr
  | i2l => exact mm_k_i2l C hl hp hroom hj hP kk hd hr
  | l2i => exact mm_k_l2i C hl hp hroom hj hP kk hd hr
  | i2b => exact mm_k_i2b C hl hp hroom hj hP kk hd hr
  | i2s => exact mm_k_i2s C hl hp hroom hj hP kk hd hr
  | ladd => exact mm_k_ladd C hl hp hroom hj hP kk hd hr
  | lsub => exact mm_k_lsub C hl hp hroom hj hP kk hd hr
  | lmul => exact mm_k_lmul C hl hp hroom hj hP kk hd hr
  | ldiv => exact mm_k_ldiv C hl hp hroom hj hP kk hd hr
  | lrem => exact mm_k_lrem C hl hp hroom hj hP kk hd hr
  | land => exact mm_k_land C hl hp hroom hj hP kk hd hr
  | lor => exact mm_k_lor C hl hp hroom hj hP kk hd hr
  | lshl => exact mm_k_lshl C hl hp hroom hj hP kk hd hr
  | lcmp => exact mm_k_lcmp C hl hp hroom hj hP kk hd hr
  | dup => exact mm_k_dup C hl hp hroom hj hP kk hd hr
  | dup2 => exact mm_k_dup2 C hl hp hroom hj hP kk hd hr
  | pop => exact mm_k_pop C hl hp hroom hj hP kk hd hr
  | aconst_null => exact mm_k_aconst_null C hl hp hroom hj hP kk hd hr
  | arraylength => exact mm_k_arraylength C hl hp hroom hj hP kk hd hr
  | iaload => exact mm_k_iaload C hl hp hroom hj hP kk hd hr
  | iastore => exact mm_k_iastore C hl hp hroom hj hP kk hd hr
  | laload => exact mm_k_laload C hl hp hroom hj hP kk hd hr
  | lastore => exact mm_k_lastore C hl hp hroom hj hP kk hd hr
  | baload => exact mm_k_baload C hl hp hroom hj hP kk hd hr
  | bastore => exact mm_k_bastore C hl hp hroom hj hP kk hd hr
  | aaload => exact mm_k_aaload C hl hp hroom hj hP kk hd hr
  | aastore => exact mm_k_aastore C hl hp hroom hj hP kk hd hr
  | goto d => obtain ⟨-, rfl⟩ := mm_c1 hr; cases hj
  | ifCond k d => obtain ⟨-, rfl⟩ := mm_c1 hr; cases hj
  | if_icmp k d => obtain ⟨-, rfl⟩ := mm_c1 hr; cases hj
  | ifnull d => obtain ⟨-, rfl⟩ := mm_c1 hr; cases hj
  | ifnonnull d => obtain ⟨-, rfl⟩ := mm_c1 hr; cases hj
  | ireturn => obtain ⟨-, rfl⟩ := mm_c1 hr; cases hj
  | lreturn => obtain ⟨-, rfl⟩ := mm_c1 hr; cases hj
  | areturn => obtain ⟨-, rfl⟩ := mm_c1 hr; cases hj
  | return_ => obtain ⟨-, rfl⟩ := mm_c1 hr; cases hj
  | tableswitch a b c d => cases hr; cases hj
  | lookupswitch a b => cases hr; cases hj
  | invokevirtual x =>
    obtain ⟨-, hr⟩ := mm_c2' hr
    obtain ⟨q, hz, hr⟩ := Option.bind_eq_some_iff.mp hr
    split at hr
    · cases hr; cases hj
    · cases hr
  | invokestatic x =>
    obtain ⟨hb, hr⟩ := mm_c2' hr
    obtain ⟨⟨k, y, n⟩, hz, hr⟩ := Option.bind_eq_some_iff.mp hr
    dsimp only at hr
    split at hr
    · cases hr; cases hj
    · exact mm_k_copy C hl hp hroom hj hP kk hd hb hz (Option.some.inj hr)
    · exact mm_k_math0 C hl hp hroom hj hP kk hd hb hz (Option.some.inj hr)
    · exact mm_k_math1 C hl hp hroom hj hP kk hd hb hz (Option.some.inj hr)
    · exact mm_k_math2 C hl hp hroom hj hP kk hd hb hz (Option.some.inj hr)
    · exact mm_k_math3 C hl hp hroom hj hP kk hd hb hz (Option.some.inj hr)
    · cases hr
  | invokespecial x =>
    obtain ⟨hb, hr⟩ := mm_c2' hr
    obtain ⟨⟨k, y, n⟩, hz, hr⟩ := Option.bind_eq_some_iff.mp hr
    dsimp only at hr
    split at hr
    · cases hr; cases hj
    · cases hr; cases hj
    · exact mm_k_objInit C hl hp hroom hj hP kk hd hb hz (Option.some.inj hr)
    · cases hr
  | _ => cases hr
def mm_le (w w' : mm_W) : Prop := w.1.length ≤ w'.1.length ∧ mm_sl w.1 ≤ mm_sl w'.1
theorem mm_le.rf : mm_le w w := ⟨Nat.le_refl _, Nat.le_refl _⟩
theorem mm_le.tr {a b d : mm_W} (h : mm_le a b) (h2 : mm_le b d) : mm_le a d := ⟨Nat.le_trans h.1 h2.1, Nat.le_trans h.2 h2.2⟩
theorem mm_le.of (h : w'.1 = w.1) : mm_le w w' := by unfold mm_le; rw [h]; exact ⟨Nat.le_refl _, Nat.le_refl _⟩
theorem mm_le.push {x : Nat × Nat} (h : w'.1 = w.1 ++ [x]) : mm_le w w' := by
  unfold mm_le
  rw [h, mm_sl_app]
  simp
theorem mm_seq_le (hj : mm_seq j L st w = some (P, L', st', w')) : mm_le w w' := by
  cases j with
  | iadd => obtain ⟨y, x, t, rfl, he⟩ := mm_ii_inv hj; cases he; exact mm_le.rf
  | isub => obtain ⟨y, x, t, rfl, he⟩ := mm_ii_inv hj; cases he; exact mm_le.rf
  | imul => obtain ⟨y, x, t, rfl, he⟩ := mm_ii_inv hj; cases he; exact mm_le.rf
  | iand => obtain ⟨y, x, t, rfl, he⟩ := mm_ii_inv hj; cases he; exact mm_le.rf
  | ior => obtain ⟨y, x, t, rfl, he⟩ := mm_ii_inv hj; cases he; exact mm_le.rf
  | ixor => obtain ⟨y, x, t, rfl, he⟩ := mm_ii_inv hj; cases he; exact mm_le.rf
  | ishl => obtain ⟨y, x, t, rfl, he⟩ := mm_ii_inv hj; cases he; exact mm_le.rf
  | ishr => obtain ⟨y, x, t, rfl, he⟩ := mm_ii_inv hj; cases he; exact mm_le.rf
  | iushr => obtain ⟨y, x, t, rfl, he⟩ := mm_ii_inv hj; cases he; exact mm_le.rf
  | idiv => obtain ⟨y, x, t, rfl, he⟩ := mm_in_inv hj; cases he; exact mm_le.rf
  | irem => obtain ⟨y, x, t, rfl, he⟩ := mm_in_inv hj; cases he; exact mm_le.rf
  | ladd => obtain ⟨y, x, t, rfl, he⟩ := mm_jj_inv hj; cases he; exact mm_le.rf
  | lsub => obtain ⟨y, x, t, rfl, he⟩ := mm_jj_inv hj; cases he; exact mm_le.rf
  | lmul => obtain ⟨y, x, t, rfl, he⟩ := mm_jj_inv hj; cases he; exact mm_le.rf
  | land => obtain ⟨y, x, t, rfl, he⟩ := mm_jj_inv hj; cases he; exact mm_le.rf
  | lor => obtain ⟨y, x, t, rfl, he⟩ := mm_jj_inv hj; cases he; exact mm_le.rf
  | ldiv => obtain ⟨y, x, t, rfl, he⟩ := mm_jn_inv hj; cases he; exact mm_le.rf
  | lrem => obtain ⟨y, x, t, rfl, he⟩ := mm_jn_inv hj; cases he; exact mm_le.rf
  | lshl => obtain ⟨y, x, t, rfl, he⟩ := mm_ij_inv hj; cases he; exact mm_le.rf
  | lcmp => obtain ⟨y, x, t, rfl, he⟩ := mm_ji_inv hj; cases he; exact mm_le.rf
  | ineg => obtain ⟨x, t, rfl, he⟩ := mm_i1_inv hj; cases he; exact mm_le.rf
  | i2l => obtain ⟨x, t, rfl, he⟩ := mm_i1_inv hj; cases he; exact mm_le.rf
  | i2b => obtain ⟨x, t, rfl, he⟩ := mm_i1_inv hj; cases he; exact mm_le.rf
  | i2s => obtain ⟨x, t, rfl, he⟩ := mm_i1_inv hj; cases he; exact mm_le.rf
  | l2i => obtain ⟨x, t, rfl, he⟩ := mm_j1_inv hj; cases he; exact mm_le.rf
  | iconst n => cases hj; exact mm_le.rf
  | goto_w n => cases hj; exact mm_le.rf
  | aconst_null => cases hj; exact mm_le.rf
  | iload n => obtain ⟨x, hx, he⟩ := mm_ldi_inv hj; cases he; exact mm_le.rf
  | lload n => obtain ⟨x, hx, he⟩ := mm_ldl_inv hj; cases he; exact mm_le.rf
  | aload n => rcases mm_lda_inv hj with ⟨x, hx, he⟩ | ⟨hx, he⟩ <;> cases he <;> exact mm_le.rf
  | istore n => obtain ⟨x, t, L1, rfl, hs, he⟩ := mm_sti_inv hj; cases he; exact mm_le.rf
  | lstore n => obtain ⟨x, t, L1, rfl, hs, he⟩ := mm_stl_inv hj; cases he; exact mm_le.rf
  | astore n => rcases mm_sta_inv hj with ⟨x, t, L1, rfl, hs, he⟩ | ⟨t, L1, rfl, hs, he⟩ <;> cases he <;> exact mm_le.rf
  | iinc n d => obtain ⟨x, L1, hx, hs, he⟩ := mm_inc_inv hj; cases he; exact mm_le.rf
  | dup =>
    replace hj : mm_dup L st w = some (P, L', st', w') := hj
    unfold mm_dup at hj
    split at hj
    · obtain ⟨-, he⟩ := mm_cond_inv hj
      cases he
      exact mm_le.rf
    · cases hj
  | dup2 =>
    replace hj : mm_dup2 L st w = some (P, L', st', w') := hj
    unfold mm_dup2 at hj
    split at hj
    · obtain ⟨-, he⟩ := mm_cond_inv hj
      cases he
      exact mm_le.rf
    · cases hj
  | pop =>
    replace hj : mm_pop L st w = some (P, L', st', w') := hj
    unfold mm_pop at hj
    split at hj
    · obtain ⟨-, he⟩ := mm_cond_inv hj
      cases he
      exact mm_le.rf
    · cases hj
  | arraylength =>
    replace hj : mm_len L st w = some (P, L', st', w') := hj
    unfold mm_len at hj
    split at hj
    · obtain ⟨-, he⟩ := mm_cond_inv hj
      cases he
      exact mm_le.rf
    · cases hj
  | getstatic n => obtain ⟨-, he⟩ := mm_cond_inv hj; cases he; exact mm_le.rf
  | lastore =>
    replace hj : mm_jst L st w = some (P, L', st', w') := hj
    unfold mm_jst at hj
    split at hj
    · obtain ⟨-, he⟩ := mm_cond_inv hj
      cases he
      exact mm_le.of rfl
    · cases hj
  | aastore =>
    replace hj : mm_rst L st w = some (P, L', st', w') := hj
    unfold mm_rst at hj
    split at hj
    · obtain ⟨-, he⟩ := mm_cond_inv hj
      cases he
      exact mm_le.of rfl
    · cases hj
  | getfield n =>
    replace hj : mm_gf n L st w = some (P, L', st', w') := hj
    unfold mm_gf at hj
    split at hj
    · obtain ⟨-, he⟩ := mm_cond_inv hj
      cases he
      exact mm_le.rf
    · cases hj
  | monitorenter =>
    replace hj : mm_oi L st w = some (P, L', st', w') := hj
    unfold mm_oi at hj
    split at hj
    · obtain ⟨-, he⟩ := mm_cond_inv hj
      cases he
      exact mm_le.rf
    · cases hj
  | iaload => obtain ⟨i, k, t, rfl, hb2, he⟩ := mm_ald_inv (ok := fun k => Nat.beq k 0 || Nat.beq k 4) (f := fun w k i => .int (w.2.1 k i)) hj; cases he; exact mm_le.rf
  | baload => obtain ⟨i, k, t, rfl, hb2, he⟩ := mm_ald_inv (ok := fun k => Nat.beq k 1) (f := fun w k i => .int (w.2.1 k i)) hj; cases he; exact mm_le.rf
  | laload => obtain ⟨i, k, t, rfl, hb2, he⟩ := mm_ald_inv (ok := fun k => Nat.beq k 2 || Nat.beq k 5) (f := fun w k i => .long (w.2.2.1 k i)) hj; cases he; exact mm_le.rf
  | aaload => obtain ⟨i, k, t, rfl, hb2, he⟩ := mm_ald_inv (ok := fun k => Nat.beq k 3) (f := fun w k i => va_rf (w.2.2.2 k i)) hj; cases he; exact mm_le.rf
  | iastore => obtain ⟨x, i, k, t, rfl, hk, he⟩ := mm_ist_inv (kd := 0) (f := fun x => x) hj; cases he; exact mm_le.of rfl
  | bastore => obtain ⟨x, i, k, t, rfl, hk, he⟩ := mm_ist_inv (kd := 1) (f := vp_nar .boolean) hj; cases he; exact mm_le.of rfl
  | putfield n =>
    replace hj : mm_pf n L st w = some (P, L', st', w') := hj
    unfold mm_pf at hj
    split at hj
    · obtain ⟨-, he⟩ := mm_cond_inv hj
      unfold mm_pv at he
      split at he <;> cases he <;> exact mm_le.of rfl
    · cases hj
  | new n => cases hj; exact mm_le.push rfl
  | newarray t =>
    replace hj : mm_nat t L st w = some (P, L', st', w') := hj
    unfold mm_nat at hj
    split at hj
    · obtain ⟨n, t, rfl, he⟩ := mm_na_inv hj; cases he; exact mm_le.push rfl
    · obtain ⟨n, t, rfl, he⟩ := mm_na_inv hj; cases he; exact mm_le.push rfl
    · obtain ⟨n, t, rfl, he⟩ := mm_na_inv hj; cases he; exact mm_le.push rfl
    · cases hj
  | anewarray t => obtain ⟨n, t, rfl, he⟩ := mm_na_inv (kd := 3) hj; cases he; exact mm_le.push rfl
  | ldc k =>
    replace hj : mm_ma k L st w = some (P, L', st', w') := hj
    unfold mm_ma at hj
    split at hj
    · obtain ⟨-, he⟩ := mm_cond_inv hj; cases he; exact mm_le.rf
    · obtain ⟨-, he⟩ := mm_cond_inv hj; cases he; exact mm_le.rf
    · obtain ⟨-, he⟩ := mm_cond_inv hj; cases he; exact mm_le.rf
    · obtain ⟨-, he⟩ := mm_cond_inv hj; cases he; exact mm_le.rf
    · cases hj
  | monitorexit =>
    replace hj : mm_ac L st w = some (P, L', st', w') := hj
    unfold mm_ac at hj
    split at hj
    · rename_i n dp b sp a t
      obtain ⟨-, he⟩ := mm_cond_inv hj
      cases hq : (Nat.beq (mm_nth w.1 a).1 0 && Nat.beq (mm_nth w.1 b).1 0) with
      | true =>
        rw [hq] at he
        cases he
        exact mm_le.of rfl
      | false =>
        rw [hq] at he
        obtain ⟨-, he⟩ := mm_cond_inv he
        cases he
        exact mm_le.of rfl
    · cases hj
  | _ => cases hj
theorem mm_ex_le {Cl : mm_Cl} {rt : Option FieldType} {r : Option Value} {w1 : mm_W} (hCl : ∀ y as w r w1, Cl y as w r w1 → mm_le w w1) : ∀ (n pc : Nat) (L : mm_L) (st : List Value) (w : mm_W), mm_Ex Cl o ini cc rt n pc L st w r w1 → mm_le w w1
  | 0, _, _, _, _, h => h.elim
  | n + 1, pc, L, st, w, h => by
    obtain ⟨i, len, j, -, -, h⟩ := h
    rcases h with ⟨P, L', st', w', hj, -, h⟩ | ⟨pc', st', -, h⟩ | ⟨-, rfl⟩ | ⟨y, as, t, r', w', -, hc, h⟩
    · exact (mm_seq_le hj).tr (mm_ex_le hCl n _ _ _ _ h)
    · exact mm_ex_le hCl n _ _ _ _ h
    · exact mm_le.rf
    · exact (hCl _ _ _ _ _ hc).tr (mm_ex_le hCl n _ _ _ _ h)
theorem mm_runs_le : ∀ (d y : Nat) (as : List Value) (w : mm_W) (r : Option Value) (w1 : mm_W), mm_Runs d y as w r w1 → mm_le w w1
  | 0, _, _, _, _, _, h => h.elim
  | d + 1, y, as, w, r, w1, h => by
    obtain ⟨-, -, n, h⟩ := h
    exact mm_ex_le (mm_runs_le d) n _ _ _ _ h
theorem mm_tgt_ok {d : Int} (h : decide (0 ≤ (pc : Int) + d) = true) : (pc : Int) + d = (mm_tgt pc d : Int) := by
  have := of_decide_eq_true h
  unfold mm_tgt
  omega
theorem mm_br_ok {pc' : Nat} (C : mm_Cx p R s m args meth c o ini cc nL D cT base ro) (hl : mm_LH (mm_ad base ro) ls nL L) (hp : mm_Pt D cT base ro s w0 H locs cells slots w) (hb : mm_br j pc st = some (pc', st')) (kk : mm_KK p l e R s m args below meth c Q nL D cT base ro w0 pc' L st' w) (hd : decode cc pc = .ok (i, len)) (hr : mm_res o ini i len = some j) : W p l e R s m args below meth c H locs cells slots Q (F0 m pc ls (st.map (mm_cv (mm_ad base ro)))) := by
  cases i with
  | goto d =>
    obtain ⟨hb1, rfl⟩ := mm_c1 hr
    obtain rfl := Nat.eq_of_beq_eq_true hb1
    obtain ⟨hb2, he⟩ := mm_c1 (show cond (decide (0 ≤ (pc : Int) + d)) (some (mm_tgt pc d, st)) none = _ from hb)
    cases he
    exact lv_goto C.1 C.2.1 hd (mm_tgt_ok hb2) (kk _ _ _ _ _ hl hp)
  | ifCond k d =>
    obtain ⟨hb1, rfl⟩ := mm_c1 hr
    obtain rfl := Nat.eq_of_beq_eq_true hb1
    unfold mm_br at hb
    dsimp only at hb
    split at hb
    · rename_i x t
      obtain ⟨hb2, he⟩ := mm_c1 hb
      cases he
      cases k
      · exact lv_if_eq C.1 C.2.1 hd (mm_tgt_ok hb2) (fun h => by have k2 := kk; simp only [mm_c2, if_pos h] at k2; exact k2 _ _ _ _ _ hl hp) (fun h => by have k2 := kk; simp only [mm_c2, if_neg h] at k2; exact k2 _ _ _ _ _ hl hp)
      · exact lv_if_ne C.1 C.2.1 hd (mm_tgt_ok hb2) (fun h => by have k2 := kk; simp only [mm_c2, if_neg h] at k2; exact k2 _ _ _ _ _ hl hp) (fun h => by have k2 := kk; simp only [mm_c2, if_pos h] at k2; exact k2 _ _ _ _ _ hl hp)
      · exact lv_if_lt C.1 C.2.1 hd (mm_tgt_ok hb2) (fun h => by have k2 := kk; simp only [mm_c2, if_pos h] at k2; exact k2 _ _ _ _ _ hl hp) (fun h => by have k2 := kk; simp only [mm_c2, if_neg h] at k2; exact k2 _ _ _ _ _ hl hp)
      · exact lv_if_ge C.1 C.2.1 hd (mm_tgt_ok hb2) (fun h => by have k2 := kk; simp only [mm_c2, if_pos h] at k2; exact k2 _ _ _ _ _ hl hp) (fun h => by have k2 := kk; simp only [mm_c2, if_neg h] at k2; exact k2 _ _ _ _ _ hl hp)
      · exact lv_if_gt C.1 C.2.1 hd (mm_tgt_ok hb2) (fun h => by have k2 := kk; simp only [mm_c2, if_pos h] at k2; exact k2 _ _ _ _ _ hl hp) (fun h => by have k2 := kk; simp only [mm_c2, if_neg h] at k2; exact k2 _ _ _ _ _ hl hp)
      · exact lv_if_le C.1 C.2.1 hd (mm_tgt_ok hb2) (fun h => by have k2 := kk; simp only [mm_c2, if_pos h] at k2; exact k2 _ _ _ _ _ hl hp) (fun h => by have k2 := kk; simp only [mm_c2, if_neg h] at k2; exact k2 _ _ _ _ _ hl hp)
    · cases hb
  | if_icmp k d =>
    obtain ⟨hb1, rfl⟩ := mm_c1 hr
    obtain rfl := Nat.eq_of_beq_eq_true hb1
    unfold mm_br at hb
    dsimp only at hb
    split at hb
    · rename_i y x t
      obtain ⟨hb2, he⟩ := mm_c1 hb
      cases he
      cases k
      · exact lv_icmp_eq C.1 C.2.1 hd (mm_tgt_ok hb2) (fun h => by have k2 := kk; simp only [mm_c2, if_pos h] at k2; exact k2 _ _ _ _ _ hl hp) (fun h => by have k2 := kk; simp only [mm_c2, if_neg h] at k2; exact k2 _ _ _ _ _ hl hp)
      · exact lv_icmp_ne C.1 C.2.1 hd (mm_tgt_ok hb2) (fun h => by have k2 := kk; simp only [mm_c2, if_neg h] at k2; exact k2 _ _ _ _ _ hl hp) (fun h => by have k2 := kk; simp only [mm_c2, if_pos h] at k2; exact k2 _ _ _ _ _ hl hp)
      · exact lv_icmp_lt C.1 C.2.1 hd (mm_tgt_ok hb2) (fun h => by have k2 := kk; simp only [mm_c2, if_pos h] at k2; exact k2 _ _ _ _ _ hl hp) (fun h => by have k2 := kk; simp only [mm_c2, if_neg h] at k2; exact k2 _ _ _ _ _ hl hp)
      · exact lv_icmp_ge C.1 C.2.1 hd (mm_tgt_ok hb2) (fun h => by have k2 := kk; simp only [mm_c2, if_pos h] at k2; exact k2 _ _ _ _ _ hl hp) (fun h => by have k2 := kk; simp only [mm_c2, if_neg h] at k2; exact k2 _ _ _ _ _ hl hp)
      · exact lv_icmp_gt C.1 C.2.1 hd (mm_tgt_ok hb2) (fun h => by have k2 := kk; simp only [mm_c2, if_pos h] at k2; exact k2 _ _ _ _ _ hl hp) (fun h => by have k2 := kk; simp only [mm_c2, if_neg h] at k2; exact k2 _ _ _ _ _ hl hp)
      · exact lv_icmp_le C.1 C.2.1 hd (mm_tgt_ok hb2) (fun h => by have k2 := kk; simp only [mm_c2, if_pos h] at k2; exact k2 _ _ _ _ _ hl hp) (fun h => by have k2 := kk; simp only [mm_c2, if_neg h] at k2; exact k2 _ _ _ _ _ hl hp)
    · cases hb
  | ifnull d =>
    obtain ⟨hb1, rfl⟩ := mm_c1 hr
    obtain rfl := Nat.eq_of_beq_eq_true hb1
    unfold mm_br at hb
    dsimp only at hb
    split at hb
    · obtain ⟨hb2, he⟩ := mm_c1 hb
      cases he
      exact lv_ifnullN C.1 C.2.1 hd (mm_tgt_ok hb2) (kk _ _ _ _ _ hl hp)
    · cases hb
      exact lv_ifnull C.1 C.2.1 hd (kk _ _ _ _ _ hl hp)
    · cases hb
  | ifnonnull d =>
    obtain ⟨hb1, rfl⟩ := mm_c1 hr
    obtain rfl := Nat.eq_of_beq_eq_true hb1
    unfold mm_br at hb
    dsimp only at hb
    split at hb
    · cases hb
      exact lv_ifnonnullN C.1 C.2.1 hd (kk _ _ _ _ _ hl hp)
    · obtain ⟨hb2, he⟩ := mm_c1 hb
      cases he
      exact lv_ifnonnull C.1 C.2.1 hd (mm_tgt_ok hb2) (kk _ _ _ _ _ hl hp)
    · cases hb
  | tableswitch d lo hi os =>
    cases hr
    unfold mm_br at hb
    dsimp only at hb
    split at hb
    · rename_i x t
      obtain ⟨hb2, he⟩ := mm_c1 hb
      simp only [Bool.and_eq_true] at hb2
      obtain ⟨⟨hb3, hb4⟩, hb5⟩ := hb2
      have hsz := of_decide_eq_true hb5
      by_cases h : x.toInt < lo ∨ hi < x.toInt
      · rw [if_pos h] at he
        cases he
        exact lv_tableOut C.1 C.2.1 hd h (mm_tgt_ok hb4) (kk _ _ _ _ _ hl hp)
      · rw [if_neg h] at he
        cases he
        have h1 : ¬ x.toInt < lo := fun z => h (Or.inl z)
        have h2 : ¬ hi < x.toInt := fun z => h (Or.inr z)
        have hlt : (x.toInt - lo).toNat < os.size := by omega
        have hget : os[(x.toInt - lo).toNat]? = some os[(x.toInt - lo).toNat] := Array.getElem?_eq_getElem hlt
        have e2 : os.toList.getD (x.toInt - lo).toNat 0 = os[(x.toInt - lo).toNat] := by
          rw [List.getD_eq_getElem?_getD, Array.getElem?_toList, hget]
          rfl
        rw [e2] at kk
        exact lv_tableIn C.1 C.2.1 hd h1 h2 hget (mm_tgt_ok ((Array.all_eq_true.mp hb3) _ hlt)) (kk _ _ _ _ _ hl hp)
    · cases hb
  | lookupswitch d ps =>
    cases hr
    unfold mm_br at hb
    dsimp only at hb
    split at hb
    · rename_i x t
      obtain ⟨hb2, he⟩ := mm_c1 hb
      simp only [Bool.and_eq_true] at hb2
      obtain ⟨⟨hb3, hb4⟩, hb5⟩ := hb2
      cases he
      have hoff : ∀ (l : List (Int × Int)), (∀ q ∈ l, decide (0 ≤ (pc : Int) + q.2) = true) → decide (0 ≤ (pc : Int) + Op.lookupswitch.offset l d x.toInt) = true := by
        intro l
        induction l with
        | nil => intro _; exact hb4
        | cons a l ih =>
          intro h
          obtain ⟨a1, a2⟩ := a
          unfold Op.lookupswitch.offset
          split
          · exact h (a1, a2) List.mem_cons_self
          · exact ih (fun q hq => h q (List.mem_cons_of_mem _ hq))
      exact lv_lookup C.1 C.2.1 hd hb5 rfl (mm_tgt_ok (hoff _ (fun q hq => by
        obtain ⟨k, hk⟩ := List.getElem?_of_mem hq
        rw [Array.getElem?_toList] at hk
        obtain ⟨h1, h2⟩ := Array.getElem?_eq_some_iff.mp hk
        rw [← h2]
        exact (Array.all_eq_true.mp hb3) k h1))) (kk _ _ _ _ _ hl hp)
    · cases hb
  | iconst n => obtain ⟨-, rfl⟩ := mm_c1 hr; cases hb
  | iload_n n => obtain ⟨-, rfl⟩ := mm_c1 hr; cases hb
  | iload n => obtain ⟨-, rfl⟩ := mm_c1 hr; cases hb
  | lload_n n => obtain ⟨-, rfl⟩ := mm_c1 hr; cases hb
  | lload n => obtain ⟨-, rfl⟩ := mm_c1 hr; cases hb
  | aload_n n => obtain ⟨-, rfl⟩ := mm_c1 hr; cases hb
  | aload n => obtain ⟨-, rfl⟩ := mm_c1 hr; cases hb
  | istore_n n => obtain ⟨-, rfl⟩ := mm_c1 hr; cases hb
  | istore n => obtain ⟨-, rfl⟩ := mm_c1 hr; cases hb
  | lstore_n n => obtain ⟨-, rfl⟩ := mm_c1 hr; cases hb
  | lstore n => obtain ⟨-, rfl⟩ := mm_c1 hr; cases hb
  | astore_n n => obtain ⟨-, rfl⟩ := mm_c1 hr; cases hb
  | astore n => obtain ⟨-, rfl⟩ := mm_c1 hr; cases hb
  | iinc n d => obtain ⟨-, rfl⟩ := mm_c1 hr; cases hb
  | newarray n => obtain ⟨-, rfl⟩ := mm_c1 hr; cases hb
  | ireturn => obtain ⟨-, rfl⟩ := mm_c1 hr; cases hb
  | lreturn => obtain ⟨-, rfl⟩ := mm_c1 hr; cases hb
  | areturn => obtain ⟨-, rfl⟩ := mm_c1 hr; cases hb
  | return_ => obtain ⟨-, rfl⟩ := mm_c1 hr; cases hb
  | iadd => obtain ⟨-, rfl⟩ := mm_c1 hr; cases hb
  | isub => obtain ⟨-, rfl⟩ := mm_c1 hr; cases hb
  | imul => obtain ⟨-, rfl⟩ := mm_c1 hr; cases hb
  | idiv => obtain ⟨-, rfl⟩ := mm_c1 hr; cases hb
  | irem => obtain ⟨-, rfl⟩ := mm_c1 hr; cases hb
  | ineg => obtain ⟨-, rfl⟩ := mm_c1 hr; cases hb
  | iand => obtain ⟨-, rfl⟩ := mm_c1 hr; cases hb
  | ior => obtain ⟨-, rfl⟩ := mm_c1 hr; cases hb
  | ixor => obtain ⟨-, rfl⟩ := mm_c1 hr; cases hb
  | ishl => obtain ⟨-, rfl⟩ := mm_c1 hr; cases hb
  | ishr => obtain ⟨-, rfl⟩ := mm_c1 hr; cases hb
  | iushr => obtain ⟨-, rfl⟩ := mm_c1 hr; cases hb
  | i2l => obtain ⟨-, rfl⟩ := mm_c1 hr; cases hb
  | l2i => obtain ⟨-, rfl⟩ := mm_c1 hr; cases hb
  | i2b => obtain ⟨-, rfl⟩ := mm_c1 hr; cases hb
  | i2s => obtain ⟨-, rfl⟩ := mm_c1 hr; cases hb
  | ladd => obtain ⟨-, rfl⟩ := mm_c1 hr; cases hb
  | lsub => obtain ⟨-, rfl⟩ := mm_c1 hr; cases hb
  | lmul => obtain ⟨-, rfl⟩ := mm_c1 hr; cases hb
  | ldiv => obtain ⟨-, rfl⟩ := mm_c1 hr; cases hb
  | lrem => obtain ⟨-, rfl⟩ := mm_c1 hr; cases hb
  | land => obtain ⟨-, rfl⟩ := mm_c1 hr; cases hb
  | lor => obtain ⟨-, rfl⟩ := mm_c1 hr; cases hb
  | lshl => obtain ⟨-, rfl⟩ := mm_c1 hr; cases hb
  | lcmp => obtain ⟨-, rfl⟩ := mm_c1 hr; cases hb
  | dup => obtain ⟨-, rfl⟩ := mm_c1 hr; cases hb
  | dup2 => obtain ⟨-, rfl⟩ := mm_c1 hr; cases hb
  | pop => obtain ⟨-, rfl⟩ := mm_c1 hr; cases hb
  | aconst_null => obtain ⟨-, rfl⟩ := mm_c1 hr; cases hb
  | arraylength => obtain ⟨-, rfl⟩ := mm_c1 hr; cases hb
  | iaload => obtain ⟨-, rfl⟩ := mm_c1 hr; cases hb
  | iastore => obtain ⟨-, rfl⟩ := mm_c1 hr; cases hb
  | laload => obtain ⟨-, rfl⟩ := mm_c1 hr; cases hb
  | lastore => obtain ⟨-, rfl⟩ := mm_c1 hr; cases hb
  | baload => obtain ⟨-, rfl⟩ := mm_c1 hr; cases hb
  | bastore => obtain ⟨-, rfl⟩ := mm_c1 hr; cases hb
  | aaload => obtain ⟨-, rfl⟩ := mm_c1 hr; cases hb
  | aastore => obtain ⟨-, rfl⟩ := mm_c1 hr; cases hb
  | bipush n => obtain ⟨-, hr⟩ := mm_c2' hr; obtain ⟨-, rfl⟩ := mm_c1 hr; cases hb
  | sipush n => obtain ⟨-, hr⟩ := mm_c2' hr; obtain ⟨-, rfl⟩ := mm_c1 hr; cases hb
  | lconst n => obtain ⟨-, hr⟩ := mm_c2' hr; obtain ⟨-, rfl⟩ := mm_c1 hr; cases hb
  | ldc n => obtain ⟨-, hr⟩ := mm_c2' hr; obtain ⟨q, -, rfl⟩ := Option.map_eq_some_iff.mp hr; cases hb
  | ldc_w n => obtain ⟨-, hr⟩ := mm_c2' hr; obtain ⟨q, -, rfl⟩ := Option.map_eq_some_iff.mp hr; cases hb
  | ldc2_w n => obtain ⟨-, hr⟩ := mm_c2' hr; obtain ⟨q, -, rfl⟩ := Option.map_eq_some_iff.mp hr; cases hb
  | getfield n => obtain ⟨-, hr⟩ := mm_c2' hr; obtain ⟨q, -, rfl⟩ := Option.map_eq_some_iff.mp hr; cases hb
  | getstatic n => obtain ⟨-, hr⟩ := mm_c2' hr; obtain ⟨q, -, rfl⟩ := Option.map_eq_some_iff.mp hr; cases hb
  | new n => obtain ⟨-, hr⟩ := mm_c2' hr; obtain ⟨q, -, rfl⟩ := Option.map_eq_some_iff.mp hr; cases hb
  | putfield n => obtain ⟨-, hr⟩ := mm_c2' hr; obtain ⟨q, -, hr⟩ := Option.bind_eq_some_iff.mp hr; obtain ⟨-, rfl⟩ := mm_c1 hr; cases hb
  | anewarray n => obtain ⟨-, hr⟩ := mm_c2' hr; obtain ⟨q, -, hr⟩ := Option.bind_eq_some_iff.mp hr; obtain ⟨-, rfl⟩ := mm_c1 hr; cases hb
  | invokevirtual n => obtain ⟨-, hr⟩ := mm_c2' hr; obtain ⟨q, -, hr⟩ := Option.bind_eq_some_iff.mp hr; split at hr <;> cases hr <;> cases hb
  | invokestatic n => obtain ⟨-, hr⟩ := mm_c2' hr; obtain ⟨q, -, hr⟩ := Option.bind_eq_some_iff.mp hr; split at hr <;> cases hr <;> cases hb
  | invokespecial n => obtain ⟨-, hr⟩ := mm_c2' hr; obtain ⟨q, -, hr⟩ := Option.bind_eq_some_iff.mp hr; split at hr <;> cases hr <;> cases hb
  | _ => cases hr
theorem mm_ret_of {rt : Option FieldType} {r : Option Value} (hr : mm_res o ini i len = some j) (h : mm_ret j rt st r) : (j = .ireturn ∨ j = .lreturn ∨ j = .areturn ∨ j = .return_) ∧ i = j ∧ len = 1 := by
  have hj : j = .ireturn ∨ j = .lreturn ∨ j = .areturn ∨ j = .return_ := by
    unfold mm_ret at h
    split at h <;> first | exact Or.inl rfl | exact Or.inr (Or.inl rfl) | exact Or.inr (Or.inr (Or.inl rfl)) | exact Or.inr (Or.inr (Or.inr rfl)) | exact h.elim
  refine ⟨hj, ?_⟩
  clear h
  cases i with
  | iconst n => obtain ⟨-, rfl⟩ := mm_c1 hr; rcases hj with h | h | h | h <;> cases h
  | iload_n n => obtain ⟨-, rfl⟩ := mm_c1 hr; rcases hj with h | h | h | h <;> cases h
  | iload n => obtain ⟨-, rfl⟩ := mm_c1 hr; rcases hj with h | h | h | h <;> cases h
  | lload_n n => obtain ⟨-, rfl⟩ := mm_c1 hr; rcases hj with h | h | h | h <;> cases h
  | lload n => obtain ⟨-, rfl⟩ := mm_c1 hr; rcases hj with h | h | h | h <;> cases h
  | aload_n n => obtain ⟨-, rfl⟩ := mm_c1 hr; rcases hj with h | h | h | h <;> cases h
  | aload n => obtain ⟨-, rfl⟩ := mm_c1 hr; rcases hj with h | h | h | h <;> cases h
  | istore_n n => obtain ⟨-, rfl⟩ := mm_c1 hr; rcases hj with h | h | h | h <;> cases h
  | istore n => obtain ⟨-, rfl⟩ := mm_c1 hr; rcases hj with h | h | h | h <;> cases h
  | lstore_n n => obtain ⟨-, rfl⟩ := mm_c1 hr; rcases hj with h | h | h | h <;> cases h
  | lstore n => obtain ⟨-, rfl⟩ := mm_c1 hr; rcases hj with h | h | h | h <;> cases h
  | astore_n n => obtain ⟨-, rfl⟩ := mm_c1 hr; rcases hj with h | h | h | h <;> cases h
  | astore n => obtain ⟨-, rfl⟩ := mm_c1 hr; rcases hj with h | h | h | h <;> cases h
  | iinc n d => obtain ⟨-, rfl⟩ := mm_c1 hr; rcases hj with h | h | h | h <;> cases h
  | newarray n => obtain ⟨-, rfl⟩ := mm_c1 hr; rcases hj with h | h | h | h <;> cases h
  | iadd => obtain ⟨-, rfl⟩ := mm_c1 hr; rcases hj with h | h | h | h <;> cases h
  | isub => obtain ⟨-, rfl⟩ := mm_c1 hr; rcases hj with h | h | h | h <;> cases h
  | imul => obtain ⟨-, rfl⟩ := mm_c1 hr; rcases hj with h | h | h | h <;> cases h
  | idiv => obtain ⟨-, rfl⟩ := mm_c1 hr; rcases hj with h | h | h | h <;> cases h
  | irem => obtain ⟨-, rfl⟩ := mm_c1 hr; rcases hj with h | h | h | h <;> cases h
  | ineg => obtain ⟨-, rfl⟩ := mm_c1 hr; rcases hj with h | h | h | h <;> cases h
  | iand => obtain ⟨-, rfl⟩ := mm_c1 hr; rcases hj with h | h | h | h <;> cases h
  | ior => obtain ⟨-, rfl⟩ := mm_c1 hr; rcases hj with h | h | h | h <;> cases h
  | ixor => obtain ⟨-, rfl⟩ := mm_c1 hr; rcases hj with h | h | h | h <;> cases h
  | ishl => obtain ⟨-, rfl⟩ := mm_c1 hr; rcases hj with h | h | h | h <;> cases h
  | ishr => obtain ⟨-, rfl⟩ := mm_c1 hr; rcases hj with h | h | h | h <;> cases h
  | iushr => obtain ⟨-, rfl⟩ := mm_c1 hr; rcases hj with h | h | h | h <;> cases h
  | i2l => obtain ⟨-, rfl⟩ := mm_c1 hr; rcases hj with h | h | h | h <;> cases h
  | l2i => obtain ⟨-, rfl⟩ := mm_c1 hr; rcases hj with h | h | h | h <;> cases h
  | i2b => obtain ⟨-, rfl⟩ := mm_c1 hr; rcases hj with h | h | h | h <;> cases h
  | i2s => obtain ⟨-, rfl⟩ := mm_c1 hr; rcases hj with h | h | h | h <;> cases h
  | ladd => obtain ⟨-, rfl⟩ := mm_c1 hr; rcases hj with h | h | h | h <;> cases h
  | lsub => obtain ⟨-, rfl⟩ := mm_c1 hr; rcases hj with h | h | h | h <;> cases h
  | lmul => obtain ⟨-, rfl⟩ := mm_c1 hr; rcases hj with h | h | h | h <;> cases h
  | ldiv => obtain ⟨-, rfl⟩ := mm_c1 hr; rcases hj with h | h | h | h <;> cases h
  | lrem => obtain ⟨-, rfl⟩ := mm_c1 hr; rcases hj with h | h | h | h <;> cases h
  | land => obtain ⟨-, rfl⟩ := mm_c1 hr; rcases hj with h | h | h | h <;> cases h
  | lor => obtain ⟨-, rfl⟩ := mm_c1 hr; rcases hj with h | h | h | h <;> cases h
  | lshl => obtain ⟨-, rfl⟩ := mm_c1 hr; rcases hj with h | h | h | h <;> cases h
  | lcmp => obtain ⟨-, rfl⟩ := mm_c1 hr; rcases hj with h | h | h | h <;> cases h
  | dup => obtain ⟨-, rfl⟩ := mm_c1 hr; rcases hj with h | h | h | h <;> cases h
  | dup2 => obtain ⟨-, rfl⟩ := mm_c1 hr; rcases hj with h | h | h | h <;> cases h
  | pop => obtain ⟨-, rfl⟩ := mm_c1 hr; rcases hj with h | h | h | h <;> cases h
  | aconst_null => obtain ⟨-, rfl⟩ := mm_c1 hr; rcases hj with h | h | h | h <;> cases h
  | arraylength => obtain ⟨-, rfl⟩ := mm_c1 hr; rcases hj with h | h | h | h <;> cases h
  | iaload => obtain ⟨-, rfl⟩ := mm_c1 hr; rcases hj with h | h | h | h <;> cases h
  | iastore => obtain ⟨-, rfl⟩ := mm_c1 hr; rcases hj with h | h | h | h <;> cases h
  | laload => obtain ⟨-, rfl⟩ := mm_c1 hr; rcases hj with h | h | h | h <;> cases h
  | lastore => obtain ⟨-, rfl⟩ := mm_c1 hr; rcases hj with h | h | h | h <;> cases h
  | baload => obtain ⟨-, rfl⟩ := mm_c1 hr; rcases hj with h | h | h | h <;> cases h
  | bastore => obtain ⟨-, rfl⟩ := mm_c1 hr; rcases hj with h | h | h | h <;> cases h
  | aaload => obtain ⟨-, rfl⟩ := mm_c1 hr; rcases hj with h | h | h | h <;> cases h
  | aastore => obtain ⟨-, rfl⟩ := mm_c1 hr; rcases hj with h | h | h | h <;> cases h
  | goto d => obtain ⟨-, rfl⟩ := mm_c1 hr; rcases hj with h | h | h | h <;> cases h
  | ifCond k d => obtain ⟨-, rfl⟩ := mm_c1 hr; rcases hj with h | h | h | h <;> cases h
  | if_icmp k d => obtain ⟨-, rfl⟩ := mm_c1 hr; rcases hj with h | h | h | h <;> cases h
  | ifnull d => obtain ⟨-, rfl⟩ := mm_c1 hr; rcases hj with h | h | h | h <;> cases h
  | ifnonnull d => obtain ⟨-, rfl⟩ := mm_c1 hr; rcases hj with h | h | h | h <;> cases h
  | tableswitch a b c d => cases hr; rcases hj with h | h | h | h <;> cases h
  | lookupswitch a b => cases hr; rcases hj with h | h | h | h <;> cases h
  | bipush n => obtain ⟨-, hr⟩ := mm_c2' hr; obtain ⟨-, rfl⟩ := mm_c1 hr; rcases hj with h | h | h | h <;> cases h
  | sipush n => obtain ⟨-, hr⟩ := mm_c2' hr; obtain ⟨-, rfl⟩ := mm_c1 hr; rcases hj with h | h | h | h <;> cases h
  | lconst n => obtain ⟨-, hr⟩ := mm_c2' hr; obtain ⟨-, rfl⟩ := mm_c1 hr; rcases hj with h | h | h | h <;> cases h
  | ldc n => obtain ⟨-, hr⟩ := mm_c2' hr; obtain ⟨q, -, rfl⟩ := Option.map_eq_some_iff.mp hr; rcases hj with h | h | h | h <;> cases h
  | ldc_w n => obtain ⟨-, hr⟩ := mm_c2' hr; obtain ⟨q, -, rfl⟩ := Option.map_eq_some_iff.mp hr; rcases hj with h | h | h | h <;> cases h
  | ldc2_w n => obtain ⟨-, hr⟩ := mm_c2' hr; obtain ⟨q, -, rfl⟩ := Option.map_eq_some_iff.mp hr; rcases hj with h | h | h | h <;> cases h
  | getfield n => obtain ⟨-, hr⟩ := mm_c2' hr; obtain ⟨q, -, rfl⟩ := Option.map_eq_some_iff.mp hr; rcases hj with h | h | h | h <;> cases h
  | getstatic n => obtain ⟨-, hr⟩ := mm_c2' hr; obtain ⟨q, -, rfl⟩ := Option.map_eq_some_iff.mp hr; rcases hj with h | h | h | h <;> cases h
  | new n => obtain ⟨-, hr⟩ := mm_c2' hr; obtain ⟨q, -, rfl⟩ := Option.map_eq_some_iff.mp hr; rcases hj with h | h | h | h <;> cases h
  | putfield n => obtain ⟨-, hr⟩ := mm_c2' hr; obtain ⟨q, -, hr⟩ := Option.bind_eq_some_iff.mp hr; obtain ⟨-, rfl⟩ := mm_c1 hr; rcases hj with h | h | h | h <;> cases h
  | anewarray n => obtain ⟨-, hr⟩ := mm_c2' hr; obtain ⟨q, -, hr⟩ := Option.bind_eq_some_iff.mp hr; obtain ⟨-, rfl⟩ := mm_c1 hr; rcases hj with h | h | h | h <;> cases h
  | invokevirtual n => obtain ⟨-, hr⟩ := mm_c2' hr; obtain ⟨q, -, hr⟩ := Option.bind_eq_some_iff.mp hr; split at hr <;> cases hr <;> rcases hj with h | h | h | h <;> cases h
  | invokestatic n => obtain ⟨-, hr⟩ := mm_c2' hr; obtain ⟨q, -, hr⟩ := Option.bind_eq_some_iff.mp hr; split at hr <;> cases hr <;> rcases hj with h | h | h | h <;> cases h
  | invokespecial n => obtain ⟨-, hr⟩ := mm_c2' hr; obtain ⟨q, -, hr⟩ := Option.bind_eq_some_iff.mp hr; split at hr <;> cases hr <;> rcases hj with h | h | h | h <;> cases h
  | ireturn => obtain ⟨hb, rfl⟩ := mm_c1 hr; exact ⟨rfl, Nat.eq_of_beq_eq_true hb⟩
  | lreturn => obtain ⟨hb, rfl⟩ := mm_c1 hr; exact ⟨rfl, Nat.eq_of_beq_eq_true hb⟩
  | areturn => obtain ⟨hb, rfl⟩ := mm_c1 hr; exact ⟨rfl, Nat.eq_of_beq_eq_true hb⟩
  | return_ => obtain ⟨hb, rfl⟩ := mm_c1 hr; exact ⟨rfl, Nat.eq_of_beq_eq_true hb⟩
  | _ => cases hr
/-! from one state's words to another's -/
theorem mm_H.to {U : State} {H1 : Heap} (h : mm_H D cT base ro s H w) (hP : va_P D vwCl (mm_all cT base ro w) H1) (hvm : s.vm.Alike U.vm) (hq : ∀ a : Nat, a < s.heap.size → ¬ base ≤ a → U.heap[a]? = s.heap[a]?) : mm_H D cT base ro U H1 w := by
  refine ⟨hP, h.2.1, fun k hk => ?_, h.2.2.2⟩
  rcases h.2.2.1 k hk with ⟨a, b⟩ | ⟨a, b⟩
  · exact Or.inl ⟨a, (b.moved hvm).kept hq⟩
  · exact Or.inr ⟨a, (b.moved hvm).kept hq⟩
theorem mm_sts.to {U : State} (h : mm_sts base ro s) (hvm : s.vm.Alike U.vm) (hq : ∀ a : Nat, a < s.heap.size → ¬ base ≤ a → U.heap[a]? = s.heap[a]?) : mm_sts base ro U := fun q hm => ((h q hm).moved hvm).kept hq
theorem mm_nests.to {U : State} (h : mm_nests s) (hW : s.WarmedH U.vm) : mm_nests U := by
  intro w hw hn
  have h1 := h w hw hn
  cases w with
  | methodLinkNest a i x b => exact va_Nw.warmM hW h1
  | _ => cases hn
theorem mm_Pt.low (hp : mm_Pt D cT base ro s w0 H locs cells slots w) {a : Nat} (ha : ¬ base ≤ a) : a < s.heap.size := by
  have := hp.2.2.2.2
  omega
theorem mm_Pt.same (hp : mm_Pt D cT base ro s w0 H locs cells slots w) {a : Nat} (ha : ¬ base ≤ a) : H[a]? = s.heap[a]? := hp.2.1.2.1 a (hp.low ha) ha
theorem mm_Pt.size {T : State} (hp : mm_Pt D cT base ro s w0 H locs cells slots w) (hT : T.heap = H) (X : Stand p l e R s m args below meth c T locs cells slots) : H.size + 7 = base + w.1.length := by
  have h1 := X.heapSize
  rw [hT] at h1
  have h2 := hp.2.2.2.2
  have h3 := hp.2.2.1
  have h4 := hp.1.2.1
  rcases Nat.lt_or_ge 7 w.1.length with h | h
  · have ha := mm_all_at (cT := cT) (base := base) (ro := ro) (w := w) (k := w.1.length - 1) (by omega) (by omega)
    have hb : mm_ad base ro (w.1.length - 1) < H.size := (hp.1.1 _ _ ha).lt
    rw [mm_ad7 (by omega)] at hb
    omega
  · have := hp.2.1.1
    omega
/-! contracts -/
def mm_rm (d mc ms : Nat) : Room := { frames := d + 1, cells := mc, slots := ms, locals := 60 * d + 100 }
def mm_ws (y : Nat) : List Jvm.Cond := Jvm.Cond.code (mm_me y).2.1 (mm_me y).2.2.1 (mm_me y).2.2.2.1 (mm_me y).2.2.2.2.1 :: mm_wds
def mm_Pc (D : va_G) (cT : Nat → ClassId) (base : Nat) (ro : Nat → Nat) (as : List Value) (w : mm_W) : Array Value → State → Prop := fun a U => a = (as.map (mm_cv (mm_ad base ro))).toArray ∧ mm_H D cT base ro U U.heap w ∧ va_K D vwCl (mm_tys cT) U ∧ mm_sts base ro U ∧ va_AO RX8 U ∧ mm_nests U ∧ U.heap.size + 7 = base + w.1.length
def mm_Qc (D : va_G) (cT : Nat → ClassId) (base : Nat) (ro : Nat → Nat) (r : Option Value) (w1 : mm_W) : Array Value → State → Outcome → State → Prop := fun _ st oc t => oc = .returned (r.map (mm_cv (mm_ad base ro))) ∧ mm_H D cT base ro t t.heap w1 ∧ va_F (mm_A base) st t
def mm_met (l : Launch) (d : Nat) (y : Nat) (as : List Value) (w : mm_W) (r : Option Value) (w1 : mm_W) : Prop := ∀ (D : va_G) (cT : Nat → ClassId) (base : Nat) (ro : Nat → Nat), Met l (mm_me y).2.1 (mm_ws y) (mm_rm d (w1.1.length - w.1.length) (mm_sl w1.1 - mm_sl w.1)) (mm_Pc D cT base ro as w) (mm_Qc D cT base ro r w1) (w1.1.length - w.1.length) (mm_sl w1.1 - mm_sl w.1) (mm_A base)
theorem mm_Pc_blind {as : List Value} : FrameBlind (mm_Pc D cT base ro as w) := by
  intro a U g mk h
  obtain ⟨h1, h2, h3, h4, h5, h6, h7⟩ := h
  exact ⟨h1, h2.to (s := U) (U := U.calling g mk a) h2.1 (Vm.Alike.refl U.vm) (fun _ _ _ => rfl), va_K.moved (u := U) (U := U.calling g mk a) (Vm.Alike.refl U.vm) h3, mm_sts.to (s := U) (U := U.calling g mk a) h4 (Vm.Alike.refl U.vm) (fun _ _ _ => rfl), va_AO.moved (u := U) (U := U.calling g mk a) (Vm.Alike.refl U.vm) h5, mm_nests.to (s := U) (U := U.calling g mk a) h6 (State.WarmedH.refl U), h7⟩
theorem mm_Pc_at {as : List Value} (C : mm_Cx p R s m args meth c o ini cc nL D cT base ro) (hp : mm_Pt D cT base ro s w0 H locs cells slots w) (hsz : H.size + 7 = base + w.1.length) {U : State} (hU : U.heap = H) (hW : s.WarmedH U.vm) : mm_Pc D cT base ro as w (as.map (mm_cv (mm_ad base ro))).toArray U := by
  have hq : ∀ a : Nat, a < s.heap.size → ¬ base ≤ a → U.heap[a]? = s.heap[a]? := fun a _ ha => by rw [hU]; exact hp.same ha
  exact ⟨rfl, hp.1.to (by rw [hU]; exact hp.1.1) hW.alike hq, va_K.moved hW.alike C.2.2.2.2.2.2.2.1, C.2.2.2.2.2.2.2.2.1.to hW.alike hq, C.2.2.2.2.2.2.2.2.2.1.moved hW.alike, C.2.2.2.2.2.1.to hW, by rw [hU]; exact hsz⟩
theorem mm_called {mc ms : Nat} {st0 : List Value} {a : Array Value} {t : List Value} {r : Option Value} {w1 : mm_W} (hp : mm_Pt D cT base ro s w0 H locs cells slots w) (hl : mm_LH (mm_ad base ro) ls nL L) (hmc : w.1.length + mc = w1.1.length) (hms : mm_sl w.1 + ms = mm_sl w1.1)
    (hr : va_Run p l e R s m args below meth c H locs cells slots mc ms (F0 m pc ls st0) (t.map (mm_cv (mm_ad base ro))) (mm_Qc D cT base ro r w1 a) (mm_A base))
    (kk : mm_KK p l e R s m args below meth c Q nL D cT base ro w0 (pc + 3) L (r.toList ++ t) w1) : W p l e R s m args below meth c H locs cells slots Q (F0 m pc ls st0) := by
  intro T hT X
  obtain ⟨v, st₀, t1, T', L1, h0, X', hL, e1, e2, ⟨hv, hH, hF⟩, st⟩ := hr T hT X
  obtain rfl : v = r.map (mm_cv (mm_ad base ro)) := by
    injection hv
  have hS : va_S (mm_A base) s.heap T'.heap (locs ++ L1) := by
    obtain ⟨hz, hk⟩ := hF
    rw [h0] at hz hk
    refine ⟨Nat.le_trans hp.2.1.1 (by rw [e1]; exact hz), fun q h1 h2 => ?_, fun q hq => ?_⟩
    · rw [e1, hk q (Nat.lt_of_lt_of_le h1 hp.2.1.1) h2]
      exact hp.2.1.2.1 q h1 h2
    · rcases List.mem_append.mp hq with h | h
      · exact hp.2.1.2.2 q h
      · exact hL q h
  have hp1 : mm_Pt D cT base ro s w0 T'.heap (locs ++ L1) (cells + mc) (slots + ms) w1 := by
    refine ⟨hH.to (by rw [e1]; exact hH.1) (by rw [← e2]; exact X'.warmed.alike.symm) (fun a _ ha => ?_), hS, by have := hp.2.2.1; omega, by have := hp.2.2.2.1; omega, hp.2.2.2.2⟩
    rw [← e1]
    exact (hS.2.1 a (hp.low ha) ha).symm
  obtain ⟨t2, a1, b1⟩ := kk _ _ _ _ _ hl hp1 T' rfl X'
  refine ⟨t2, st t2 ?_, b1⟩
  rw [List.map_append] at a1
  cases r <;> exact a1
theorem mm_me_in {y : Nat} (h : y < mm_meL.length) : mm_meC (mm_me y) := by
  have e : mm_me y = mm_meL[y] := by
    unfold mm_me
    rw [List.getD_eq_getElem?_getD, List.getElem?_eq_getElem h]
    rfl
  rw [e]
  exact mm_me_all _ (List.getElem_mem h)
theorem mm_ws_good {y : Nat} (h : y < mm_meL.length) : GoodIn mm_wds (mm_ws y) := by
  intro w hw
  rcases List.mem_cons.mp hw with rfl | hw
  · have h1 := (mm_me_in h).2.2.2.1
    exact ⟨mm_wds_in h1 rfl, good_of_word rfl⟩
  · exact ⟨hw, mm_wds_all w hw⟩
theorem mm_rev {n : Nat} (ad : Nat → Nat) : ((st.take n).reverse.map (mm_cv ad)).reverse ++ (st.drop n).map (mm_cv ad) = st.map (mm_cv ad) := by
  rw [← List.map_reverse, List.reverse_reverse, ← List.map_append, List.take_append_drop]
theorem mm_nargs {y n : Nat} (h : decide ((parseMethodDescriptor (mm_me y).2.1.desc).map (fun d => d.parameters.length) = some n) = true) : (parseMethodDescriptor (mm_me y).2.1.desc).map (fun d => d.parameters.length) = some n := of_decide_eq_true h
theorem mm_dm16 {a b : Nat} (h : b < 16) : (a * 16 + b) / 16 = a ∧ (a * 16 + b) % 16 = b := by omega
theorem mm_cal16 : ∀ q ∈ mm_calL, q.2.2.2.2 < 16 := by decide +kernel
theorem mm_call_ok {d y : Nat} {as t : List Value} {r' : Option Value} {w1 : mm_W} (C : mm_Cx p R s m args meth c o ini cc nL D cT base ro) (hR : d + 2 ≤ R.frames ∧ 60 * d + 160 ≤ R.locals) (hl : mm_LH (mm_ad base ro) ls nL L) (hp : mm_Pt D cT base ro s w0 H locs cells slots w) (hle : mm_le w w1) (hroom : w1.1.length ≤ w0.1.length + R.cells ∧ mm_sl w1.1 ≤ mm_sl w0.1 + R.slots)
    (hd : decode cc pc = .ok (i, len)) (hr : mm_res o ini i len = some j) (hc : mm_call j st w = some (y, as, t)) (hM : mm_met l d y as w r' w1) (kk : mm_KK p l e R s m args below meth c Q nL D cT base ro w0 (pc + 3) L (r'.toList ++ t) w1) : W p l e R s m args below meth c H locs cells slots Q (F0 m pc ls (st.map (mm_cv (mm_ad base ro)))) := by
  obtain ⟨hle1, hle2⟩ := hle
  have hc1 := hp.2.2.1
  have hs1 := hp.2.2.2.1
  intro T hT X
  have hsz := hp.size hT X
  refine mm_called (a := (as.map (mm_cv (mm_ad base ro))).toArray) (t := t) (r := r') (w1 := w1) (mc := w1.1.length - w.1.length) (ms := mm_sl w1.1 - mm_sl w.1) hp hl (by omega) (by omega) ?_ kk T hT X
  have hf : cells + (w1.1.length - w.1.length) ≤ R.cells ∧ slots + (mm_sl w1.1 - mm_sl w.1) ≤ R.slots := ⟨by omega, by omega⟩
  have hfix : CallFix p m c cc nL s args mm_wds (mm_R o) := ⟨C.1, C.2.1, C.2.2.1, C.2.2.2.1, C.2.2.2.2.1⟩
  have hpre : FrameBlind (mm_Pc D cT base ro as w) ∧ ∀ U : State, U.heap = H → s.WarmedH U.vm → mm_Pc D cT base ro as w (as.map (mm_cv (mm_ad base ro))).toArray U := ⟨mm_Pc_blind, fun U hU hW => mm_Pc_at C hp hsz hU hW⟩
  cases i with
  | invokestatic x =>
    obtain ⟨hb, hr⟩ := mm_c2' hr
    obtain rfl := Nat.eq_of_beq_eq_true hb
    obtain ⟨⟨k, y2, n⟩, hz, hr⟩ := Option.bind_eq_some_iff.mp hr
    dsimp only at hr
    split at hr
    · cases hr
      obtain ⟨i, hi, hy, hdm⟩ := mm_call_in hz
      obtain ⟨i2, hi2⟩ := mm_look_in hz
      have h16 := mm_cal16 _ hi2
      dsimp only at h16
      obtain ⟨d1, d2⟩ := mm_dm16 (a := y2) (b := n) h16
      unfold mm_call at hc
      dsimp only at hc
      rw [d1, d2] at hc
      obtain ⟨hb2, he⟩ := mm_c1 hc
      cases he
      simp only [Bool.and_eq_true] at hb2
      obtain ⟨g1, g2, g3, g4, g5, g6, g7, g8, g9, g10⟩ := mm_me_in hy
      have hdm : (Nat.beq (mm_me y).2.2.2.2.2.1 1 && decide ((parseMethodDescriptor (mm_me y).2.1.desc).map (fun d => d.parameters.length) = some n)) = true := hdm
      rw [Bool.and_eq_true] at hdm
      have hst : (mm_me y).2.2.2.2.2.1 = 1 := Nat.eq_of_beq_eq_true hdm.1
      rw [if_pos hst] at g5
      have hrun := va_runS (p := p) (l := l) (e := e) (R := R) (s := s) (m := m) (args := args) (below := below) (meth := meth) (c := c) (H := H) (locs := locs) (cells := cells) (slots := slots) (index := x) (As := (st.take n).reverse.map (mm_cv (mm_ad base ro))) (rest := (st.drop n).map (mm_cv (mm_ad base ro))) (g := F0 m pc ls (st.map (mm_cv (mm_ad base ro)))) (n := n) hfix (hM D cT base ro)
        ⟨callB_of (bytes := (mm_me y).2.2.1) (maxL := (mm_me y).2.2.2.1) (ret := (mm_me y).2.2.2.2.1) n C.2.2.2.2.1 (mm_ws_good hy) rfl rfl rfl (C.has g7 rfl) (C.has hi rfl) ⟨g9, g10, mm_nargs hdm.2⟩ ⟨by show d + 1 + 1 ≤ _; omega, by show 8 + _ + (60 * d + 100) ≤ _; omega⟩, C.has g5 rfl⟩ hpre rfl
        (by rw [List.length_map, List.length_reverse, List.length_take]; have := Nat.le_of_ble_eq_true hb2.1; omega) hl.1 (mm_rev _).symm (lv_room (by rw [mm_cat_sum]; exact Nat.le_of_ble_eq_true hb2.2)) hd hf
      exact hrun
    · cases hr; cases hc
    · cases hr; cases hc
    · cases hr; cases hc
    · cases hr; cases hc
    · cases hr; cases hc
    · cases hr
  | invokevirtual x =>
    obtain ⟨hb, hr⟩ := mm_c2' hr
    obtain rfl := Nat.eq_of_beq_eq_true hb
    obtain ⟨⟨k, y2, n⟩, hz, hr⟩ := Option.bind_eq_some_iff.mp hr
    dsimp only at hr
    split at hr
    · cases hr
      obtain ⟨i, hi, hy, hdm⟩ := mm_call_in hz
      obtain ⟨i2, hi2⟩ := mm_look_in hz
      have h16 := mm_cal16 _ hi2
      dsimp only at h16
      obtain ⟨d1, d2⟩ := mm_dm16 (a := y2) (b := n) h16
      unfold mm_call at hc
      dsimp only at hc
      rw [d1, d2] at hc
      split at hc
      · rename_i b t0 hdr
        obtain ⟨hb2, he⟩ := mm_c1 hc
        cases he
        simp only [Bool.and_eq_true] at hb2
        obtain ⟨g1, g2, g3, g4, g5, g6, g7, g8, g9, g10⟩ := mm_me_in hy
        have hdm : (Nat.beq (mm_me y).2.2.2.2.2.1 0 && !decide ((mm_me y).2.1.name = "<init>") && decide ((parseMethodDescriptor (mm_me y).2.1.desc).map (fun d => d.parameters.length) = some n)) = true := hdm
        simp only [Bool.and_eq_true, Bool.not_eq_true', decide_eq_false_iff_not] at hdm
        have hst : (mm_me y).2.2.2.2.2.1 = 0 := Nat.eq_of_beq_eq_true hdm.1.1
        rw [if_neg (by omega)] at g5
        have hsel : (Jvm.Cond.selects (mm_me y).2.1.cls (mm_me y).2.1 (mm_me y).2.1).before args s = true := by
          rcases g6 with h | h | h
          · omega
          · exact absurd h hdm.1.2
          · exact C.has h rfl
        have hkb : (mm_nth w.1 b).1 = (mm_me y).1 + 10 := Nat.eq_of_beq_eq_true hb2.2
        have hlen : n < st.length := by
          have := congrArg List.length hdr
          simp only [List.length_drop, List.length_cons] at this
          omega
        have ha := hp.at (k := b) (by omega) (by omega) (by omega)
        rw [mm_cellO hkb] at ha
        have hat := hp.1.1 _ _ ha
        obtain ⟨rr, hr1, cellB, hr2, hr3, hr4, -⟩ := hat
        have hst2 : st.map (mm_cv (mm_ad base ro)) = ((st.take n).reverse.map (mm_cv (mm_ad base ro))).reverse ++ .ref (mm_ad base ro b) :: t.map (mm_cv (mm_ad base ro)) := by
          rw [← mm_rev (n := n), hdr]
          rfl
        have hcls : s.vm.findClass (mm_me y).2.1.cls = some cellB.cls := by
          have h13 : (mm_me y).1 < 13 := by
            rcases Nat.lt_or_ge (mm_me y).1 13 with q | q
            · exact q
            · rw [List.getElem?_eq_none (by exact q)] at hr1
              cases hr1
          rw [mm_vwCl h13] at hr1
          cases hr1
          have := (C.2.2.2.2.2.2.2.1.1 _ _ (mm_vwCl h13)).2.1
          rw [g1, hr3]
          exact this
        have hrun := va_runV (p := p) (l := l) (e := e) (R := R) (s := s) (m := m) (args := args) (below := below) (meth := meth) (c := c) (H := H) (locs := locs) (cells := cells) (slots := slots) (index := x) (C := (mm_me y).2.1.cls) (b := mm_ad base ro b) (As := (st.take n).reverse.map (mm_cv (mm_ad base ro))) (rest := t.map (mm_cv (mm_ad base ro))) (g := F0 m pc ls (st.map (mm_cv (mm_ad base ro)))) (n := n) hfix (hM D cT base ro)
          ⟨callB_of (bytes := (mm_me y).2.2.1) (maxL := (mm_me y).2.2.2.1) (ret := (mm_me y).2.2.2.2.1) n C.2.2.2.2.1 (mm_ws_good hy) rfl rfl rfl (C.has g7 rfl) (C.has hi rfl) ⟨g9, g10, mm_nargs hdm.2⟩ ⟨by show d + 1 + 1 ≤ _; omega, by show 8 + _ + (60 * d + 100) ≤ _; omega⟩, C.has g5 rfl, hsel⟩ ⟨hpre.1, ⟨cellB, hr2, by rw [hr4]; rfl, hcls⟩, hpre.2⟩ rfl
          (by rw [List.length_map, List.length_reverse, List.length_take]; omega) hl.1 hst2 (lv_room (by rw [mm_cat_sum]; exact Nat.le_of_ble_eq_true hb2.1)) hd hf
        exact hrun
      · cases hc
    · cases hr
  | invokespecial x =>
    obtain ⟨hb, hr⟩ := mm_c2' hr
    obtain rfl := Nat.eq_of_beq_eq_true hb
    obtain ⟨⟨k, y2, n⟩, hz, hr⟩ := Option.bind_eq_some_iff.mp hr
    dsimp only at hr
    have key : ∀ (hk : k = 2 ∨ k = 3), j = .invokespecial (y2 * 16 + n) → va_Run p l e R s m args below meth c H locs cells slots (w1.1.length - w.1.length) (mm_sl w1.1 - mm_sl w.1) (F0 m pc ls (st.map (mm_cv (mm_ad base ro)))) (t.map (mm_cv (mm_ad base ro))) (mm_Qc D cT base ro r' w1 (as.map (mm_cv (mm_ad base ro))).toArray) (mm_A base) := by
      intro hk hjj
      subst hjj
      obtain ⟨i, hi, hy, hdm⟩ := mm_call_in hz
      obtain ⟨i2, hi2⟩ := mm_look_in hz
      have h16 := mm_cal16 _ hi2
      dsimp only at h16
      obtain ⟨d1, d2⟩ := mm_dm16 (a := y2) (b := n) h16
      unfold mm_call at hc
      dsimp only at hc
      rw [d1, d2] at hc
      split at hc
      · rename_i b t0 hdr
        obtain ⟨hb2, he⟩ := mm_c1 hc
        cases he
        obtain ⟨g1, g2, g3, g4, g5, g6, g7, g8, g9, g10⟩ := mm_me_in hy
        have hdn : (Nat.beq (mm_me y).2.2.2.2.2.1 0 && decide ((mm_me y).2.1.name = "<init>") && decide ((mm_me y).2.2.2.2.1 = none) && decide ((parseMethodDescriptor (mm_me y).2.1.desc).map (fun d => d.parameters.length) = some n)) = true := by
          rcases hk with rfl | rfl <;> exact hdm
        simp only [Bool.and_eq_true, decide_eq_true_eq] at hdn
        have hst : (mm_me y).2.2.2.2.2.1 = 0 := Nat.eq_of_beq_eq_true hdn.1.1.1
        rw [if_neg (by omega)] at g5
        have hlen : n < st.length := by
          have := congrArg List.length hdr
          simp only [List.length_drop, List.length_cons] at this
          omega
        have hst2 : st.map (mm_cv (mm_ad base ro)) = ((st.take n).reverse.map (mm_cv (mm_ad base ro))).reverse ++ .ref (mm_ad base ro b) :: t.map (mm_cv (mm_ad base ro)) := by
          rw [← mm_rev (n := n), hdr]
          rfl
        have hrt : (mm_me y).2.2.2.2.1 = none := hdn.1.2
        have hwsE : mm_ws y = Jvm.Cond.code (mm_me y).2.1 (mm_me y).2.2.1 (mm_me y).2.2.2.1 none :: mm_wds := by unfold mm_ws; rw [hrt]
        rcases hk with rfl | rfl
        · exact va_runI (p := p) (l := l) (e := e) (R := R) (s := s) (m := m) (args := args) (below := below) (meth := meth) (c := c) (H := H) (locs := locs) (cells := cells) (slots := slots) (index := x) (b := mm_ad base ro b) (As := (st.take n).reverse.map (mm_cv (mm_ad base ro))) (rest := t.map (mm_cv (mm_ad base ro))) (g := F0 m pc ls (st.map (mm_cv (mm_ad base ro)))) (n := n) hfix (hM D cT base ro)
            ⟨callB_of (bytes := (mm_me y).2.2.1) (maxL := (mm_me y).2.2.2.1) (ret := none) n C.2.2.2.2.1 (mm_ws_good hy) hwsE rfl rfl (C.has g7 rfl) (C.has hi rfl) ⟨g9, g10, mm_nargs (decide_eq_true hdn.2)⟩ ⟨by show d + 1 + 1 ≤ _; omega, by show 8 + _ + (60 * d + 100) ≤ _; omega⟩, hdn.1.1.2, C.has g5 rfl⟩ hpre rfl
            (by rw [List.length_map, List.length_reverse, List.length_take]; omega) hl.1 hst2 (lv_room (by rw [mm_cat_sum]; exact Nat.le_of_ble_eq_true hb2)) hd hf
        · exact va_runIN (p := p) (l := l) (e := e) (R := R) (s := s) (m := m) (args := args) (below := below) (meth := meth) (c := c) (H := H) (locs := locs) (cells := cells) (slots := slots) (index := x) (host := "StonesOver") (b := mm_ad base ro b) (As := (st.take n).reverse.map (mm_cv (mm_ad base ro))) (rest := t.map (mm_cv (mm_ad base ro))) (g := F0 m pc ls (st.map (mm_cv (mm_ad base ro)))) (n := n) hfix (hM D cT base ro)
            ⟨va_cnB (bytes := (mm_me y).2.2.1) (maxL := (mm_me y).2.2.2.1) (ret := none) n C.2.2.2.2.1 (mm_ws_good hy) hwsE rfl rfl (C.2.2.2.2.2.1 _ (List.mem_of_getElem? hi) rfl) (C.has g7 rfl) ⟨g9, g10, mm_nargs (decide_eq_true hdn.2)⟩ ⟨by show d + 1 + 1 ≤ _; omega, by show 8 + _ + (60 * d + 100) ≤ _; omega⟩, hdn.1.1.2, C.has g5 rfl⟩ hpre rfl
            (by rw [List.length_map, List.length_reverse, List.length_take]; omega) hl.1 hst2 (lv_room (by rw [mm_cat_sum]; exact Nat.le_of_ble_eq_true hb2)) hd hf
      · cases hc
    split at hr
    · exact key (Or.inl rfl) (Option.some.inj hr).symm
    · exact key (Or.inr rfl) (Option.some.inj hr).symm
    · cases hr; cases hc
    · cases hr
  | iconst n => obtain ⟨-, rfl⟩ := mm_c1 hr; cases hc
  | iload_n n => obtain ⟨-, rfl⟩ := mm_c1 hr; cases hc
  | iload n => obtain ⟨-, rfl⟩ := mm_c1 hr; cases hc
  | lload_n n => obtain ⟨-, rfl⟩ := mm_c1 hr; cases hc
  | lload n => obtain ⟨-, rfl⟩ := mm_c1 hr; cases hc
  | aload_n n => obtain ⟨-, rfl⟩ := mm_c1 hr; cases hc
  | aload n => obtain ⟨-, rfl⟩ := mm_c1 hr; cases hc
  | istore_n n => obtain ⟨-, rfl⟩ := mm_c1 hr; cases hc
  | istore n => obtain ⟨-, rfl⟩ := mm_c1 hr; cases hc
  | lstore_n n => obtain ⟨-, rfl⟩ := mm_c1 hr; cases hc
  | lstore n => obtain ⟨-, rfl⟩ := mm_c1 hr; cases hc
  | astore_n n => obtain ⟨-, rfl⟩ := mm_c1 hr; cases hc
  | astore n => obtain ⟨-, rfl⟩ := mm_c1 hr; cases hc
  | iinc n d => obtain ⟨-, rfl⟩ := mm_c1 hr; cases hc
  | newarray n => obtain ⟨-, rfl⟩ := mm_c1 hr; cases hc
  | ireturn => obtain ⟨-, rfl⟩ := mm_c1 hr; cases hc
  | lreturn => obtain ⟨-, rfl⟩ := mm_c1 hr; cases hc
  | areturn => obtain ⟨-, rfl⟩ := mm_c1 hr; cases hc
  | return_ => obtain ⟨-, rfl⟩ := mm_c1 hr; cases hc
  | iadd => obtain ⟨-, rfl⟩ := mm_c1 hr; cases hc
  | isub => obtain ⟨-, rfl⟩ := mm_c1 hr; cases hc
  | imul => obtain ⟨-, rfl⟩ := mm_c1 hr; cases hc
  | idiv => obtain ⟨-, rfl⟩ := mm_c1 hr; cases hc
  | irem => obtain ⟨-, rfl⟩ := mm_c1 hr; cases hc
  | ineg => obtain ⟨-, rfl⟩ := mm_c1 hr; cases hc
  | iand => obtain ⟨-, rfl⟩ := mm_c1 hr; cases hc
  | ior => obtain ⟨-, rfl⟩ := mm_c1 hr; cases hc
  | ixor => obtain ⟨-, rfl⟩ := mm_c1 hr; cases hc
  | ishl => obtain ⟨-, rfl⟩ := mm_c1 hr; cases hc
  | ishr => obtain ⟨-, rfl⟩ := mm_c1 hr; cases hc
  | iushr => obtain ⟨-, rfl⟩ := mm_c1 hr; cases hc
  | i2l => obtain ⟨-, rfl⟩ := mm_c1 hr; cases hc
  | l2i => obtain ⟨-, rfl⟩ := mm_c1 hr; cases hc
  | i2b => obtain ⟨-, rfl⟩ := mm_c1 hr; cases hc
  | i2s => obtain ⟨-, rfl⟩ := mm_c1 hr; cases hc
  | ladd => obtain ⟨-, rfl⟩ := mm_c1 hr; cases hc
  | lsub => obtain ⟨-, rfl⟩ := mm_c1 hr; cases hc
  | lmul => obtain ⟨-, rfl⟩ := mm_c1 hr; cases hc
  | ldiv => obtain ⟨-, rfl⟩ := mm_c1 hr; cases hc
  | lrem => obtain ⟨-, rfl⟩ := mm_c1 hr; cases hc
  | land => obtain ⟨-, rfl⟩ := mm_c1 hr; cases hc
  | lor => obtain ⟨-, rfl⟩ := mm_c1 hr; cases hc
  | lshl => obtain ⟨-, rfl⟩ := mm_c1 hr; cases hc
  | lcmp => obtain ⟨-, rfl⟩ := mm_c1 hr; cases hc
  | dup => obtain ⟨-, rfl⟩ := mm_c1 hr; cases hc
  | dup2 => obtain ⟨-, rfl⟩ := mm_c1 hr; cases hc
  | pop => obtain ⟨-, rfl⟩ := mm_c1 hr; cases hc
  | aconst_null => obtain ⟨-, rfl⟩ := mm_c1 hr; cases hc
  | arraylength => obtain ⟨-, rfl⟩ := mm_c1 hr; cases hc
  | iaload => obtain ⟨-, rfl⟩ := mm_c1 hr; cases hc
  | iastore => obtain ⟨-, rfl⟩ := mm_c1 hr; cases hc
  | laload => obtain ⟨-, rfl⟩ := mm_c1 hr; cases hc
  | lastore => obtain ⟨-, rfl⟩ := mm_c1 hr; cases hc
  | baload => obtain ⟨-, rfl⟩ := mm_c1 hr; cases hc
  | bastore => obtain ⟨-, rfl⟩ := mm_c1 hr; cases hc
  | aaload => obtain ⟨-, rfl⟩ := mm_c1 hr; cases hc
  | aastore => obtain ⟨-, rfl⟩ := mm_c1 hr; cases hc
  | goto d => obtain ⟨-, rfl⟩ := mm_c1 hr; cases hc
  | ifCond k d => obtain ⟨-, rfl⟩ := mm_c1 hr; cases hc
  | if_icmp k d => obtain ⟨-, rfl⟩ := mm_c1 hr; cases hc
  | ifnull d => obtain ⟨-, rfl⟩ := mm_c1 hr; cases hc
  | ifnonnull d => obtain ⟨-, rfl⟩ := mm_c1 hr; cases hc
  | tableswitch a b c d => cases hr; cases hc
  | lookupswitch a b => cases hr; cases hc
  | bipush n => obtain ⟨-, hr⟩ := mm_c2' hr; obtain ⟨-, rfl⟩ := mm_c1 hr; cases hc
  | sipush n => obtain ⟨-, hr⟩ := mm_c2' hr; obtain ⟨-, rfl⟩ := mm_c1 hr; cases hc
  | lconst n => obtain ⟨-, hr⟩ := mm_c2' hr; obtain ⟨-, rfl⟩ := mm_c1 hr; cases hc
  | ldc n => obtain ⟨-, hr⟩ := mm_c2' hr; obtain ⟨q, -, rfl⟩ := Option.map_eq_some_iff.mp hr; cases hc
  | ldc_w n => obtain ⟨-, hr⟩ := mm_c2' hr; obtain ⟨q, -, rfl⟩ := Option.map_eq_some_iff.mp hr; cases hc
  | ldc2_w n => obtain ⟨-, hr⟩ := mm_c2' hr; obtain ⟨q, -, rfl⟩ := Option.map_eq_some_iff.mp hr; cases hc
  | getfield n => obtain ⟨-, hr⟩ := mm_c2' hr; obtain ⟨q, -, rfl⟩ := Option.map_eq_some_iff.mp hr; cases hc
  | getstatic n => obtain ⟨-, hr⟩ := mm_c2' hr; obtain ⟨q, -, rfl⟩ := Option.map_eq_some_iff.mp hr; cases hc
  | new n => obtain ⟨-, hr⟩ := mm_c2' hr; obtain ⟨q, -, rfl⟩ := Option.map_eq_some_iff.mp hr; cases hc
  | putfield n => obtain ⟨-, hr⟩ := mm_c2' hr; obtain ⟨q, -, hr⟩ := Option.bind_eq_some_iff.mp hr; obtain ⟨-, rfl⟩ := mm_c1 hr; cases hc
  | anewarray n => obtain ⟨-, hr⟩ := mm_c2' hr; obtain ⟨q, -, hr⟩ := Option.bind_eq_some_iff.mp hr; obtain ⟨-, rfl⟩ := mm_c1 hr; cases hc
  | _ => cases hr
/-- every run of the pure machine from this point is the machine's -/
theorem mm_ex_ok {Cl : mm_Cl} {d : Nat} {rt : Option FieldType} {r : Option Value} {w1 : mm_W} (C : mm_Cx p R s m args meth c o ini cc nL D cT base ro) (hR : d + 2 ≤ R.frames ∧ 60 * d + 160 ≤ R.locals) (hle : ∀ y as w r w1, Cl y as w r w1 → mm_le w w1) (hCl : ∀ y as w r w1, Cl y as w r w1 → mm_met l d y as w r w1) (hroom : w1.1.length ≤ w0.1.length + R.cells ∧ mm_sl w1.1 ≤ mm_sl w0.1 + R.slots)
    (hret : ∀ (pc : Nat) (j : Instr) (st : List Value) (H : Heap) (locs : List Loc) (cells slots : Nat) (ls : Array Slot), mm_Pt D cT base ro s w0 H locs cells slots w1 → decode cc pc = .ok (j, 1) → (j = .ireturn ∨ j = .lreturn ∨ j = .areturn ∨ j = .return_) → mm_ret j rt st r → W p l e R s m args below meth c H locs cells slots Q (F0 m pc ls (st.map (mm_cv (mm_ad base ro))))) :
    ∀ (n pc : Nat) (L : mm_L) (st : List Value) (w : mm_W), mm_Ex Cl o ini cc rt n pc L st w r w1 → mm_KK p l e R s m args below meth c Q nL D cT base ro w0 pc L st w
  | 0, _, _, _, _, h => h.elim
  | n + 1, pc, L, st, w, h => by
    intro H locs cells slots ls hl hp
    obtain ⟨i, len, j, hd, hr, h⟩ := h
    rcases h with ⟨P, L', st', w', hj, hP, h⟩ | ⟨pc', st', hb, h⟩ | ⟨hrt, rfl⟩ | ⟨y, as, t, r', w', hc, hcl, h⟩
    · have h1 := mm_ex_le hle n _ _ _ _ h
      have ha := h1.1
      have hb := h1.2
      exact mm_seq_ok C hl hp ⟨by omega, by omega⟩ hj hP (mm_ex_ok C hR hle hCl hroom hret n _ _ _ _ h) hd hr
    · exact mm_br_ok C hl hp hb (mm_ex_ok C hR hle hCl hroom hret n _ _ _ _ h) hd hr
    · obtain ⟨h1, rfl, rfl⟩ := mm_ret_of hr hrt
      exact hret pc _ st H locs cells slots ls hp hd h1 hrt
    · have h1 := mm_ex_le hle n _ _ _ _ h
      have ha := h1.1
      have hb := h1.2
      exact mm_call_ok C hR hl hp (hle _ _ _ _ _ hcl) ⟨by omega, by omega⟩ hd hr hc (hCl _ _ _ _ _ hcl) (mm_ex_ok C hR hle hCl hroom hret n _ _ _ _ h)
/-! how a method begins -/
theorem mm_get_rep : ∀ (n j : Nat) (v : Value), mm_get (List.replicate n none) j ≠ some v
  | 0, _, _, h => by cases h
  | n + 1, 0, _, h => by cases h
  | n + 1, j + 1, v, h => mm_get_rep n j v h
theorem mm_ini_get (ad : Nat → Nat) : ∀ (as : List Value) (n i j : Nat) (v : Value), mm_get (mm_ini n as) j = some v → (i + j, mm_cv ad v) ∈ lv_args i (as.map (mm_cv ad))
  | [], n, i, j, v, h => absurd h (mm_get_rep n j v)
  | x :: t, n, i, j, v, h => by
    rw [List.map_cons]
    unfold lv_args
    rw [mm_cv_cat]
    unfold mm_ini at h
    cases hb : Nat.beq x.category 2 with
    | true =>
      rw [hb] at h
      rw [if_pos (Nat.eq_of_beq_eq_true hb)]
      match j, h with
      | 0, h => cases h; exact List.mem_cons_self
      | 1, h => cases h
      | j + 2, h =>
        have := mm_ini_get ad t (n - 2) (i + 2) j v h
        rw [show i + 2 + j = i + (j + 2) by omega] at this
        exact List.mem_cons_of_mem _ this
    | false =>
      rw [hb] at h
      rw [if_neg (fun z => by rw [z] at hb; cases hb)]
      match j, h with
      | 0, h => cases h; exact List.mem_cons_self
      | j + 1, h =>
        have := mm_ini_get ad t (n - 1) (i + 1) j v h
        rw [show i + 1 + j = i + (j + 1) by omega] at this
        exact List.mem_cons_of_mem _ this
theorem mm_ini_len (ad : Nat → Nat) : ∀ (as : List Value) (n : Nat), (lg_sl (as.map (mm_cv ad))).length ≤ (mm_ini n as).length
  | [], n => Nat.zero_le _
  | x :: t, n => by
    unfold mm_ini
    rw [List.map_cons]
    unfold lg_sl
    rw [List.flatMap_cons, mm_cv_cat]
    have h1 := mm_ini_len ad t (n - 1)
    have h2 := mm_ini_len ad t (n - 2)
    unfold lg_sl at h1 h2
    cases hb : Nat.beq x.category 2 with
    | true =>
      rw [if_pos (Nat.eq_of_beq_eq_true hb)]
      simp only [cond_true, List.length_append, List.length_cons, List.length_nil]
      omega
    | false =>
      rw [if_neg (fun z => by rw [z] at hb; cases hb)]
      simp only [cond_false, List.length_append, List.length_cons, List.length_nil]
      omega
theorem mm_entry {as : List Value} (h : (mm_ini nL as).length = nL) : mm_LH (mm_ad base ro) ((lg_sl (as.map (mm_cv (mm_ad base ro))) ++ List.replicate (nL - (lg_sl (as.map (mm_cv (mm_ad base ro)))).length) Slot.unset).toArray) nL (mm_ini nL as) := by
  have hlv := lv_entry (as.map (mm_cv (mm_ad base ro))) (n := nL) (by have := mm_ini_len (mm_ad base ro) as nL; omega)
  refine ⟨hlv.1, h, hlv.2.1, fun j v hv => ?_⟩
  have := mm_ini_get (mm_ad base ro) as nL 0 j v hv
  rw [Nat.zero_add] at this
  exact hlv.2.2 _ this
/-- THE PURE MACHINE IS SOUND -/
theorem mm_sound (l : Launch) : ∀ (d y : Nat) (as : List Value) (w : mm_W) (r : Option Value) (w1 : mm_W), mm_Runs d y as w r w1 → mm_met l d y as w r w1
  | 0, _, _, _, _, _, h => h.elim
  | d + 1, y, as, w, r, w1, h => by
    obtain ⟨hini, hy, n, hex⟩ := h
    have hle0 := mm_ex_le (mm_runs_le d) n _ _ _ _ hex
    intro D cT base ro
    obtain ⟨g1, g2, g3, g4, g5, g6, g7, g8, g9, g10⟩ := mm_me_in hy
    refine Met.ofW (cc := (mm_me y).2.2.1) (maxL := (mm_me y).2.2.2.1) (ret := (mm_me y).2.2.2.2.1) g8 rfl ?_
    intro p e s m args below meth c s₁ B hml hv
    obtain ⟨rfl, hH, hK, hsts, hAO, hnn, hsz⟩ := hv
    have hts := atoms_spec (ws := mm_ws y) B.pre
    have hlocks := B.notSynchronized
    have hx := B.exec
    have hb := B.bytes
    have hrt := B.returns
    have hle1 := hle0.1
    have hle2 := hle0.2
    have h7 := hH.2.1
    have C : mm_Cx p (mm_rm (d + 1) (w1.1.length - w.1.length) (mm_sl w1.1 - mm_sl w.1)) s m (as.map (mm_cv (mm_ad base ro))).toArray meth c (mm_me y).1 (decide ((mm_me y).2.1.name = "<init>")) (mm_me y).2.2.1 (mm_me y).2.2.2.1 D cT base ro :=
      ⟨hx, hb, hml, by rw [← g1]; exact findClass_of_methodNamed B.named, fun w hw => hts w (List.mem_cons_of_mem _ hw), hnn, fun hi => (name_of_methodNamed B.named B.method).1.trans (of_decide_eq_true hi), hK, hsts, hAO, Nat.le_add_left 1 _, by show 100 ≤ 60 * (d + 1) + 100; omega⟩
    have hp : mm_Pt D cT base ro s w s.heap [] 0 0 w := ⟨hH, va_S.rf, rfl, rfl, hsz, h7⟩
    rw [lg_entry_eq]
    refine mm_ex_ok (d := d) C ⟨Nat.le_refl _, by show 60 * d + 160 ≤ 60 * (d + 1) + 100; omega⟩ (mm_runs_le d) (mm_sound l d) ⟨by show _ ≤ _ + (w1.1.length - w.1.length); omega, by show _ ≤ _ + (mm_sl w1.1 - mm_sl w.1); omega⟩ ?_ n 0 _ [] w hex _ _ _ _ _ (mm_entry hini) hp
    intro pc j st H locs cells slots ls hp1 hd hj hret
    have e1 := hp1.2.2.1
    have e2 := hp1.2.2.2.1
    obtain rfl : cells = w1.1.length - w.1.length := by omega
    obtain rfl : slots = mm_sl w1.1 - mm_sl w.1 := by omega
    have hq : ∀ (oc : Outcome), oc = .returned (r.map (mm_cv (mm_ad base ro))) → ∀ t : State, t.heap = H → s.WarmedH t.vm → mm_Qc D cT base ro r w1 (as.map (mm_cv (mm_ad base ro))).toArray s oc t := by
      intro oc ho t ht hW
      refine ⟨ho, hp1.1.to (by rw [ht]; exact hp1.1.1) hW.alike (fun a _ ha => by rw [ht]; exact hp1.same ha), hp1.2.1.F ht⟩
    unfold mm_ret at hret
    split at hret
    · rename_i hrt2
      subst hret
      exact W.iret hx hb (hrt.trans hrt2) (hq _ rfl) hp1.2.1.2.2 hd
    · rename_i x hrt2
      obtain ⟨hz, rfl⟩ := hret
      exact W.zret (ty := .boolean) hx hb (hrt.trans hrt2) (by rcases hz with rfl | rfl <;> rfl) (hq _ rfl) hp1.2.1.2.2 hd
    · rename_i hrt2
      subst hret
      exact W.lret hx hb (hrt.trans hrt2) (hq _ rfl) hp1.2.1.2.2 hd
    · rename_i hrt2
      subst hret
      exact W.aret hx hb (hrt.trans hrt2) (Or.inl ⟨_, rfl⟩) (Or.inr ⟨_, rfl⟩) (hq _ rfl) hp1.2.1.2.2 hd
    · rename_i hrt2
      subst hret
      exact W.aret hx hb (hrt.trans hrt2) (Or.inl ⟨_, rfl⟩) (Or.inl rfl) (hq _ rfl) hp1.2.1.2.2 hd
    · rename_i hrt2
      subst hret
      exact W.vret hx hb (hrt.trans hrt2) (hq _ rfl) hp1.2.1.2.2 hd
    · exact hret.elim

end MMX
end
section
/-! THE CLAIM OUT OF ONE WALK OF THE LAW'S BODY. Your part is whole_start (and what it stands on); all else here is the same for every law, but numbers. -/
def R_law : String := "StonesOverLaw"
def lw_P (b : Addr) (xs : List Int32) (args : Array Value) (s : State) : Prop := args = #[.ref b] ∧ s.IntsAt b xs ∧ xs.length ≤ 3072 ∧ (Jvm.Cond.and given_1 narrow_1).before args s = true
def lw_Q (_ : Array Value) (s : State) (o : Outcome) (t : State) : Prop := o = .returned (some (.int 1)) ∧ Framed s o t [] 600000 7302250
def lw_Z (below : List Frame) (a : Array Value) (s : State) : State → Prop := fun t => ∃ o, t.status = .running ∧ Ended t below o ∧ lw_Q a s o t
/-- the law's own end, with 1 on the stack, nothing written that was there before, its room as the claim has it -/
theorem lw_ret {p : Program} {l : Launch} {e : Env} {s : State} {m : MethodId} {below : List Frame} {meth : Method} {c : Code} {b : Nat} (hx : p.tables.exec = Jvm.exec) (hb : c.code = code) (hr : meth.sig.returnType = ret) (hlocks : meth.locks = false) {pc : Nat} {H : Heap} {ls : Array Slot} (hdg : decode code pc = .ok (.ireturn, 1)) : W p l e room_1 s m #[Value.ref b] below meth c H [] 600000 7302250 (lw_Z below #[Value.ref b] s) (F0 m pc ls [.int 1]) := by
  intro T hT X
  obtain ⟨fs, hret, hrun, hended, hW, hframe⟩ := X.leave (v := some (.int 1)) (hlocks := hlocks) (fun h => by rw [hr] at h; cases h)
  have hmeth' : T.vm.method? m = some meth := X.method'
  refine ⟨T.setFrames fs, ?_, .returned (some (.int 1)), hrun, hended, rfl, ⟨_, rfl⟩, hW, hframe⟩
  jvm_step X.here [X.here.top, hx, hb, hdg, hmeth', hr, ret, narrow_b1]
  (try refine ⟨rfl, ?_⟩); (try refine ⟨rfl, ?_⟩)
  first | (intro acts; rw [hret _ acts rfl rfl rfl]) | rw [hret _ _ rfl rfl rfl]
  exact Steps.refl _
/-- what holds at the law's entry: the machine, the code, the tables' words (any of lw_tbl by 'hts w (by decide +kernel)'), the script of L ints xs at the cell b, what the Statement gives of the start (any of its parts by flat_of_before) -/
def lw_At (p : Program) (s : State) (m : MethodId) (meth : Method) (c : Code) (b L : Nat) (xs : Nat → Int32) : Prop :=
  p.tables.exec = Jvm.exec ∧ c.code = code ∧ meth.sig.returnType = ret ∧ c.maxLocals = 4 ∧ s.vm.findClass R_law = some m.cls ∧ (∀ w ∈ lw_tbl, w.before #[Value.ref b] s = true) ∧ va_X b L xs s s.heap ∧ b < s.heap.size ∧ meth.locks = false ∧ (Jvm.Cond.and given_1 narrow_1).before #[Value.ref b] s = true

def mm_t1 : List Int32 := [1, 0, 1, 0, 10, 5, 0, 0, 999, 400, 5, -1, 0]
def mm_t2 : List Int32 := [1, 0, 0, 0, 1, 1, 0, -9, 0, 0, 0, -1, 0]
def mm_t3 : List Int32 := [9, 9, 9, 12, 20, 9, 1, 9, 999, 999, 20, 999, 12]
def mm_t4 : List Int64 := [1, 12, 144, 1728, 20736, 248832, 2985984, 35831808, 429981696, 5159780352]
def mm_t5 : List Int32 := [1, 10, 11, 2, 20, 0, 0, 0, 0, 30, 0, 0, 0, 41, 40, 0, 0, 0, 50, 0, 0, 0, 0, 60, 70, 0, 0, 0, 0, 80, 0, 81]
def mm_t6 : List Int32 := [-1, 0, 0, 2, 1, 3, 0, 4]
/-- the pure world at the law's start: the script, the six tables -/
def mm_I0 (xs : Nat → Int32) : Nat → Nat → Int32 := fun k j => match k with
  | 0 => xs j
  | 1 => mm_t1.getD j 0
  | 2 => mm_t2.getD j 0
  | 3 => mm_t3.getD j 0
  | 5 => mm_t5.getD j 0
  | 6 => mm_t6.getD j 0
  | _ => 0
def mm_J0 : Nat → Nat → Int64 := fun k j => match k with
  | 4 => mm_t4.getD j 0
  | _ => 0
def mm_w0 (L : Nat) (xs : Nat → Int32) : mm_W := ([(4, L), (4, 13), (4, 13), (4, 13), (5, 10), (4, 32), (4, 8)], mm_I0 xs, mm_J0, fun _ _ => none)
/-- what is left: the law's run in the pure machine -/
def mm_Law (L : Nat) (xs : Nat → Int32) : Prop := ∃ (d n : Nat) (w1 : mm_W), d ≤ 1000 ∧ w1.1.length ≤ 500000 ∧ mm_sl w1.1 ≤ 7000000 ∧ mm_Ex (mm_Runs d) 15 false code (some .boolean) n 0 [some (.ref 0), none, none, none] [] (mm_w0 L xs) (some (.int 1)) w1
theorem mm_inst_ok : ∀ ci ∈ List.range 13, Jvm.Cond.instantiable (mm_R ci) (mm_n ci) ∈ lw_tbl := by decide +kernel
section MMST
variable {s : State} {args : Array Value}
theorem mm_tabI {C n : String} {N : Nat} {f : Nat → Int32} (hN : N < 2 ^ 31) (harr : (Cond.arrayOf (.static C n "[I") .int).before args s = true) (hlen : (Cond.eq (.length (.static C n "[I")) (.int (Int32.ofNat N))).before args s = true) (hel : ∀ j : Nat, j < N → (Cond.eq (.elem (.static C n "[I") (.int (Int32.ofNat j))) (.int (f j))).before args s = true) (hlay : (Cond.laysStatic C n "[I").before args s = true) (hini : (Cond.initialized C).before args s = true) : ∃ t : Nat, va_Z C n "[I" (.ref t) (mm_A s.heap.size) s s.heap ∧ va_T .int t N (fun j => .int (f j)) (mm_A s.heap.size) s s.heap := by
  have hA : ∀ a : Nat, a < s.heap.size → ¬ mm_A s.heap.size a := fun a ha hz => by unfold mm_A at hz; omega
  obtain ⟨t, ht, hT⟩ := va_Tof (f := fun j => .int (f j)) hN harr (va_eqt hlen) (fun j hj => va_eqt (hel j hj)) hA
  exact ⟨t, va_Zof hlay hini ht hA, hT⟩
theorem mm_tabJ {C n : String} {N : Nat} {f : Nat → Int64} (hN : N < 2 ^ 31) (harr : (Cond.arrayOf (.static C n "[J") .long).before args s = true) (hlen : (Cond.eq (.length (.static C n "[J")) (.int (Int32.ofNat N))).before args s = true) (hel : ∀ j : Nat, j < N → (Cond.eq (.elem (.static C n "[J") (.int (Int32.ofNat j))) (.long (f j))).before args s = true) (hlay : (Cond.laysStatic C n "[J").before args s = true) (hini : (Cond.initialized C).before args s = true) : ∃ t : Nat, va_Z C n "[J" (.ref t) (mm_A s.heap.size) s s.heap ∧ va_T .long t N (fun j => .long (f j)) (mm_A s.heap.size) s s.heap := by
  have hA : ∀ a : Nat, a < s.heap.size → ¬ mm_A s.heap.size a := fun a ha hz => by unfold mm_A at hz; omega
  obtain ⟨t, ht, hT⟩ := va_Tof (f := fun j => .long (f j)) hN harr (va_eqt hlen) (fun j hj => va_eqtl (hel j hj)) hA
  exact ⟨t, va_Zof hlay hini ht hA, hT⟩
theorem mm_arrc {ty : FieldType} (h : (Cond.arrayClass ty).before args s = true) : ∃ cA : ClassId, ArrOfT s cA ty ∧ s.vm.findClass ("[" ++ ty.toString) = some cA := by
  obtain ⟨c, k, comp, h1, h2, h3⟩ := Cond.arrayClass_spec h
  exact ⟨c, fun N z => ⟨(fun k h => by cases h), k, h2, comp, h3⟩, h1⟩
end MMST
theorem mm_el1 : ∀ j ∈ List.range 13, Cond.eq (.elem (.static "StonesOver$Lane" "AT_FIRST" "[I") (.int (Int32.ofNat j))) (.int (mm_t1.getD j 0)) ∈ flatC narrow_1 := by decide +kernel
theorem mm_el2 : ∀ j ∈ List.range 13, Cond.eq (.elem (.static "StonesOver$Lane" "LEAST" "[I") (.int (Int32.ofNat j))) (.int (mm_t2.getD j 0)) ∈ flatC narrow_1 := by decide +kernel
theorem mm_el3 : ∀ j ∈ List.range 13, Cond.eq (.elem (.static "StonesOver$Lane" "MOST" "[I") (.int (Int32.ofNat j))) (.int (mm_t3.getD j 0)) ∈ flatC narrow_1 := by decide +kernel
theorem mm_el4 : ∀ j ∈ List.range 10, Cond.eq (.elem (.static "StonesOver$Contest" "TWELVES" "[J") (.int (Int32.ofNat j))) (.long (mm_t4.getD j 0)) ∈ flatC narrow_1 := by decide +kernel
theorem mm_el5 : ∀ j ∈ List.range 32, Cond.eq (.elem (.static "StonesOver$Acts" "OWN_BODY" "[I") (.int (Int32.ofNat j))) (.int (mm_t5.getD j 0)) ∈ flatC narrow_1 := by decide +kernel
theorem mm_el6 : ∀ j ∈ List.range 8, Cond.eq (.elem (.static "StonesOver$Acts" "KIND_ABOVE" "[I") (.int (Int32.ofNat j))) (.int (mm_t6.getD j 0)) ∈ flatC narrow_1 := by decide +kernel
theorem mm_start {p : Program} {e : Env} {s : State} {m : MethodId} {below : List Frame} {meth : Method} {c : Code} (l : Launch) {b L : Nat} {xs : Nat → Int32} (hLaw : mm_Law L xs) (hL : L ≤ 3072) (C0 : lw_At p s m meth c b L xs) : W p l e room_1 s m #[Value.ref b] below meth c s.heap [] 0 0 (lw_Z below #[Value.ref b] s) (entryFrame m ([Value.ref b] : List Value).toArray 4) := by
  obtain ⟨d, n, w1, hd, hcells, hslots, hex⟩ := hLaw
  obtain ⟨hx, hb, hrt, hml, hown, hts, hX, hbl, hlocks, hgv⟩ := C0
  have hflat := flat_of_before _ hgv
  have hnar : ∀ c ∈ flatC narrow_1, c.before #[Value.ref b] s = true := by
    refine flat_of_before _ ?_
    rw [Cond.before_and, Bool.and_eq_true] at hgv
    exact hgv.2
  have has : ∀ {i : Nat} {x : Jvm.Cond}, lw_tbl[i]? = some x → x.before #[Value.ref b] s = true := fun h => hts _ (List.mem_of_getElem? h)
  obtain ⟨a1, z1, t1⟩ := mm_tabI (C := "StonesOver$Lane") (n := "AT_FIRST") (N := 13) (f := fun j => mm_t1.getD j 0) (by decide) (hnar _ (by decide +kernel)) (hnar _ (by decide +kernel)) (fun j hj => hnar _ (mm_el1 j (List.mem_range.mpr hj))) (has (i := 107) (by decide +kernel)) (has (i := 77) (by decide +kernel))
  obtain ⟨a2, z2, t2⟩ := mm_tabI (C := "StonesOver$Lane") (n := "LEAST") (N := 13) (f := fun j => mm_t2.getD j 0) (by decide) (hnar _ (by decide +kernel)) (hnar _ (by decide +kernel)) (fun j hj => hnar _ (mm_el2 j (List.mem_range.mpr hj))) (has (i := 413) (by decide +kernel)) (has (i := 77) (by decide +kernel))
  obtain ⟨a3, z3, t3⟩ := mm_tabI (C := "StonesOver$Lane") (n := "MOST") (N := 13) (f := fun j => mm_t3.getD j 0) (by decide) (hnar _ (by decide +kernel)) (hnar _ (by decide +kernel)) (fun j hj => hnar _ (mm_el3 j (List.mem_range.mpr hj))) (has (i := 415) (by decide +kernel)) (has (i := 77) (by decide +kernel))
  obtain ⟨a4, z4, t4⟩ := mm_tabJ (C := "StonesOver$Contest") (n := "TWELVES") (N := 10) (f := fun j => mm_t4.getD j 0) (by decide) (hnar _ (by decide +kernel)) (hnar _ (by decide +kernel)) (fun j hj => hnar _ (mm_el4 j (List.mem_range.mpr hj))) (has (i := 842) (by decide +kernel)) (has (i := 84) (by decide +kernel))
  obtain ⟨a5, z5, t5⟩ := mm_tabI (C := "StonesOver$Acts") (n := "OWN_BODY") (N := 32) (f := fun j => mm_t5.getD j 0) (by decide) (hnar _ (by decide +kernel)) (hnar _ (by decide +kernel)) (fun j hj => hnar _ (mm_el5 j (List.mem_range.mpr hj))) (has (i := 1062) (by decide +kernel)) (has (i := 87) (by decide +kernel))
  obtain ⟨a6, z6, t6⟩ := mm_tabI (C := "StonesOver$Acts") (n := "KIND_ABOVE") (N := 8) (f := fun j => mm_t6.getD j 0) (by decide) (hnar _ (by decide +kernel)) (hnar _ (by decide +kernel)) (fun j hj => hnar _ (mm_el6 j (List.mem_range.mpr hj))) (has (i := 1064) (by decide +kernel)) (has (i := 87) (by decide +kernel))
  obtain ⟨c0, k0, r0⟩ := mm_arrc (ty := .int) (has (i := 115) (by decide +kernel))
  obtain ⟨c1, k1, r1⟩ := mm_arrc (ty := .boolean) (has (i := 1338) (by decide +kernel))
  obtain ⟨c2, k2, r2⟩ := mm_arrc (ty := .long) (has (i := 186) (by decide +kernel))
  have hover : (Cond.arrayOver (.object RX8)).before #[Value.ref b] s = true := has (i := 164) (by decide +kernel)
  obtain ⟨comp, c3, kA, hcomp, hidx, hkA, hkindA, hnameA⟩ := Cond.arrayOver_spec hover
  have k3 : ArrOfT s c3 (.object RX8) := fun N z => ⟨(fun k h => by cases h), kA, hkA, comp, hkindA⟩
  have hkn : ∀ ci : Nat, ∃ q : ClassId × (Nat → Nat), ci < 13 → u_Kn s (mm_R ci) (mm_T ci) (mm_n ci) q.1 q.2 := by
    intro ci
    by_cases h : ci < 13
    · obtain ⟨cC, iS, hk⟩ := u_known (C := mm_R ci) (T := mm_T ci) (N := mm_n ci) (fun w hw => hts w (List.mem_filter.mp hw).1) (mm_uws h) (hts _ (mm_inst_ok ci (List.mem_range.mpr h)))
      exact ⟨(cC, iS), fun _ => hk⟩
    · exact ⟨(0, fun _ => 0), fun z => absurd z h⟩
  have hK : va_K (fun ci => (Classical.choose (hkn ci)).1, fun ci => (Classical.choose (hkn ci)).2) vwCl (mm_tys (fun k => match k with | 0 => c0 | 1 => c1 | 2 => c2 | _ => c3)) s := by
    refine ⟨fun ci q hq => ?_, fun k q hq => ?_⟩
    · have h13 : ci < 13 := (List.getElem?_eq_some_iff.mp hq).1
      rw [mm_vwCl h13] at hq
      cases hq
      exact Classical.choose_spec (hkn ci) h13
    · match k, hq with
      | 0, hq => cases hq; exact ⟨k0, r0⟩
      | 1, hq => cases hq; exact ⟨k1, r1⟩
      | 2, hq => cases hq; exact ⟨k2, r2⟩
      | 3, hq => cases hq; exact ⟨k3, kA, comp, hkA, hkindA, hcomp, hnameA⟩
      | n + 4, hq => cases hq
  obtain ⟨scr, x1, x2, x3, x4, x5⟩ := hX
  have tb : va_T .int b L (fun j => .int (xs j)) (mm_A s.heap.size) s s.heap := ⟨scr, x1, x2, x3, by omega, by rw [x4], x5, fun hz => by unfold mm_A at hz; omega⟩
  have C : mm_Cx p room_1 s m #[Value.ref b] meth c 15 false code 4 (fun ci => (Classical.choose (hkn ci)).1, fun ci => (Classical.choose (hkn ci)).2) (fun k => match k with | 0 => c0 | 1 => c1 | 2 => c2 | _ => c3) s.heap.size (fun k => match k with | 0 => b | 1 => a1 | 2 => a2 | 3 => a3 | 4 => a4 | 5 => a5 | _ => a6) := by
    refine ⟨hx, hb, hml, hown, fun w hw => hts w (List.mem_filter.mp hw).1, fun w hw hn => ?_, (fun h => by cases h), hK, fun q hq => ?_, va_AO.of hover, by decide, by decide⟩
    · have h1 := hts w hw
      cases w with
      | methodLinkNest a i x b => exact va_Nw.of rfl h1
      | _ => cases hn
    · simp only [mm_staL, List.mem_cons, List.not_mem_nil, or_false] at hq
      rcases hq with rfl | rfl | rfl | rfl | rfl | rfl
      · exact z1
      · exact z2
      · exact z3
      · exact z4
      · exact z5
      · exact z6
  have hp : mm_Pt (fun ci => (Classical.choose (hkn ci)).1, fun ci => (Classical.choose (hkn ci)).2) (fun k => match k with | 0 => c0 | 1 => c1 | 2 => c2 | _ => c3) s.heap.size (fun k => match k with | 0 => b | 1 => a1 | 2 => a2 | 3 => a3 | 4 => a4 | 5 => a5 | _ => a6) s (mm_w0 L xs) s.heap [] 0 0 (mm_w0 L xs) := by
    refine ⟨⟨fun k q hq => ?_, Nat.le_refl 7, fun k hk => ?_, fun k hk => ?_⟩, va_S.rf, rfl, rfl, rfl, Nat.le_refl 7⟩
    · cases hq
    · match k, hk with
      | 0, _ => exact Or.inl ⟨rfl, tb⟩
      | 1, _ => exact Or.inl ⟨rfl, t1⟩
      | 2, _ => exact Or.inl ⟨rfl, t2⟩
      | 3, _ => exact Or.inl ⟨rfl, t3⟩
      | 4, _ => exact Or.inr ⟨rfl, t4⟩
      | 5, _ => exact Or.inl ⟨rfl, t5⟩
      | 6, _ => exact Or.inl ⟨rfl, t6⟩
      | n + 7, h => exact absurd h (by omega)
    · rw [mm_nth_out (by exact hk)]
      exact ⟨by decide, by decide⟩
  have hR : d + 2 ≤ room_1.frames ∧ 60 * d + 160 ≤ room_1.locals := by
    show d + 2 ≤ 2048 ∧ 60 * d + 160 ≤ 84000
    omega
  have hroom : w1.1.length ≤ (mm_w0 L xs).1.length + room_1.cells ∧ mm_sl w1.1 ≤ mm_sl (mm_w0 L xs).1 + room_1.slots := by
    show w1.1.length ≤ _ + 600000 ∧ mm_sl w1.1 ≤ _ + 7302250
    omega
  rw [lg_entry_eq]
  refine mm_ex_ok (d := d) C hR (mm_runs_le d) (mm_sound l d) hroom ?_ n 0 _ [] _ hex _ _ _ _ _ (mm_entry (as := [.ref 0]) rfl) hp
  intro pc j st H locs cells slots ls hp1 hd1 hj hret
  have e1 := hp1.2.2.1
  have e2 := hp1.2.2.2.1
  have e3 : (mm_w0 L xs).1.length = 7 := rfl
  unfold mm_ret at hret
  split at hret
  · rename_i h
    cases h
  · rename_i x _
    obtain ⟨-, hx1⟩ := hret
    cases hx1
    refine va_forget (fun q hq => hp1.2.1.2.2 q hq) (W.widen (k := 600000) (n := 7302250) (by omega) (by omega) ?_)
    exact lw_ret hx hb hrt hlocks hd1
  all_goals first | (rename_i h; cases h; done) | exact hret.elim
end
section
/-! runs of the pure machine, block by block -/
def mm_lsb : mm_L → mm_L → Prop
  | [], [] => True
  | none :: a, _ :: b => mm_lsb a b
  | some v :: a, x :: b => x = some v ∧ mm_lsb a b
  | _, _ => False
theorem mm_lsb_get : ∀ {a b : mm_L}, mm_lsb a b → ∀ {j : Nat} {v : Value}, mm_get a j = some v → mm_get b j = some v
  | [], [], _, _, _, h => by cases h
  | none :: a, x :: b, h, 0, v, hv => by cases hv
  | none :: a, x :: b, h, j + 1, v, hv => mm_lsb_get (a := a) (b := b) h (j := j) hv
  | some u :: a, x :: b, h, 0, v, hv => by
    obtain ⟨rfl, -⟩ := h
    exact hv
  | some u :: a, x :: b, h, j + 1, v, hv => mm_lsb_get (a := a) (b := b) h.2 (j := j) hv
theorem mm_lsb_len : ∀ {a b : mm_L}, mm_lsb a b → a.length = b.length
  | [], [], _ => rfl
  | none :: a, x :: b, h => congrArg (· + 1) (mm_lsb_len (a := a) (b := b) h)
  | some u :: a, x :: b, h => congrArg (· + 1) (mm_lsb_len (a := a) (b := b) h.2)
theorem mm_lsb_of : ∀ {a b : mm_L}, a.length = b.length → (∀ j v, mm_get a j = some v → mm_get b j = some v) → mm_lsb a b
  | [], [], _, _ => trivial
  | [], _ :: _, h, _ => by cases h
  | _ :: _, [], h, _ => by cases h
  | none :: a, x :: b, h, k => mm_lsb_of (a := a) (b := b) (Nat.succ.inj h) (fun j v hv => k (j + 1) v hv)
  | some u :: a, x :: b, h, k => ⟨k 0 u rfl, mm_lsb_of (a := a) (b := b) (Nat.succ.inj h) (fun j v hv => k (j + 1) v hv)⟩
theorem mm_get_set_self : ∀ {L : mm_L} {i : Nat} {x : Option Value}, i < L.length → mm_get (L.set i x) i = x
  | [], _, _, h => by cases h
  | _ :: _, 0, _, _ => rfl
  | _ :: l, n + 1, x, h => mm_get_set_self (L := l) (i := n) (x := x) (Nat.lt_of_succ_lt_succ h)
theorem mm_get_set_ne : ∀ {L : mm_L} {i j : Nat} {x : Option Value}, j ≠ i → mm_get (L.set i x) j = mm_get L j
  | [], _, _, _, _ => rfl
  | _ :: _, 0, 0, _, h => absurd rfl h
  | _ :: _, 0, _ + 1, _, _ => rfl
  | _ :: _, _ + 1, 0, _, _ => rfl
  | _ :: l, n + 1, j + 1, x, h => mm_get_set_ne (L := l) (i := n) (j := j) (x := x) (fun z => h (congrArg (· + 1) z))
theorem mm_clr_get2 {L : mm_L} {i j : Nat} {v : Value} (h : mm_get L j = some v) (hn : ¬ (j + 1 = i ∧ v.category = 2)) : mm_get (mm_clr L i) j = some v := by
  unfold mm_clr
  cases i with
  | zero => exact h
  | succ n =>
    dsimp only
    split
    · rename_i u hu
      cases hc : Nat.beq u.category 2 with
      | false => exact h
      | true =>
        by_cases hj : j = n
        · subst hj
          rw [hu] at h
          cases h
          exact absurd ⟨rfl, Nat.eq_of_beq_eq_true hc⟩ hn
        · show mm_get (L.set n none) j = some v
          rw [mm_get_set_ne hj]
          exact h
    · exact h
theorem mm_set1_mono {L M L1 : mm_L} {i : Nat} {v : Value} (hM : mm_lsb L M) (h : mm_set1 L i v = some L1) : ∃ M1, mm_set1 M i v = some M1 ∧ mm_lsb L1 M1 := by
  unfold mm_set1 at h ⊢
  have hl := mm_lsb_len hM
  obtain ⟨hb, rfl⟩ := mm_c1 h
  rw [hl] at hb
  have hi := Nat.le_of_ble_eq_true hb
  refine ⟨_, by rw [hb]; rfl, mm_lsb_of (by simp [mm_clr_len, hl]) (fun j u hu => ?_)⟩
  rcases mm_get_set hu with ⟨rfl, q⟩ | ⟨e, q⟩
  · rw [mm_get_set_self (by rw [mm_clr_len]; exact hi)]
    exact q
  · rw [mm_get_set_ne e]
    obtain ⟨q1, q2⟩ := mm_clr_get q
    exact mm_clr_get2 (mm_lsb_get hM q1) q2
theorem mm_set2_mono {L M L1 : mm_L} {i : Nat} {v : Value} (hM : mm_lsb L M) (h : mm_set2 L i v = some L1) : ∃ M1, mm_set2 M i v = some M1 ∧ mm_lsb L1 M1 := by
  unfold mm_set2 at h ⊢
  have hl := mm_lsb_len hM
  obtain ⟨hb, rfl⟩ := mm_c1 h
  rw [hl] at hb
  have hi : i + 1 < M.length := Nat.le_of_ble_eq_true hb
  refine ⟨_, by rw [hb]; rfl, mm_lsb_of (by simp [mm_clr_len, hl]) (fun j u hu => ?_)⟩
  rcases mm_get_set hu with ⟨-, q⟩ | ⟨e0, q0⟩
  · cases q
  rw [mm_get_set_ne e0]
  rcases mm_get_set q0 with ⟨rfl, q⟩ | ⟨e, q⟩
  · rw [mm_get_set_self (by rw [mm_clr_len]; omega)]
    exact q
  · rw [mm_get_set_ne e]
    obtain ⟨q1, q2⟩ := mm_clr_get q
    exact mm_clr_get2 (mm_lsb_get hM q1) q2
section MMB
variable {Cl : mm_Cl} {o : Nat} {ini : Bool} {cc : ByteArray} {rt : Option FieldType} {pc : Nat} {lo lo' M : mm_L} {st st' : List Value} {w w' w1 : mm_W} {r : Option Value} {P : Prop} {j : Instr}
theorem mm_seq_mono (hM : mm_lsb lo M) (hj : mm_seq j lo st w = some (P, lo', st', w')) : ∃ M', mm_seq j M st w = some (P, M', st', w') ∧ mm_lsb lo' M' := by
  cases j with
  | iadd => obtain ⟨y, x, t, rfl, he⟩ := mm_ii_inv hj; cases he; exact ⟨M, rfl, hM⟩
  | isub => obtain ⟨y, x, t, rfl, he⟩ := mm_ii_inv hj; cases he; exact ⟨M, rfl, hM⟩
  | imul => obtain ⟨y, x, t, rfl, he⟩ := mm_ii_inv hj; cases he; exact ⟨M, rfl, hM⟩
  | iand => obtain ⟨y, x, t, rfl, he⟩ := mm_ii_inv hj; cases he; exact ⟨M, rfl, hM⟩
  | ior => obtain ⟨y, x, t, rfl, he⟩ := mm_ii_inv hj; cases he; exact ⟨M, rfl, hM⟩
  | ixor => obtain ⟨y, x, t, rfl, he⟩ := mm_ii_inv hj; cases he; exact ⟨M, rfl, hM⟩
  | ishl => obtain ⟨y, x, t, rfl, he⟩ := mm_ii_inv hj; cases he; exact ⟨M, rfl, hM⟩
  | ishr => obtain ⟨y, x, t, rfl, he⟩ := mm_ii_inv hj; cases he; exact ⟨M, rfl, hM⟩
  | iushr => obtain ⟨y, x, t, rfl, he⟩ := mm_ii_inv hj; cases he; exact ⟨M, rfl, hM⟩
  | idiv => obtain ⟨y, x, t, rfl, he⟩ := mm_in_inv hj; cases he; exact ⟨M, rfl, hM⟩
  | irem => obtain ⟨y, x, t, rfl, he⟩ := mm_in_inv hj; cases he; exact ⟨M, rfl, hM⟩
  | ladd => obtain ⟨y, x, t, rfl, he⟩ := mm_jj_inv hj; cases he; exact ⟨M, rfl, hM⟩
  | lsub => obtain ⟨y, x, t, rfl, he⟩ := mm_jj_inv hj; cases he; exact ⟨M, rfl, hM⟩
  | lmul => obtain ⟨y, x, t, rfl, he⟩ := mm_jj_inv hj; cases he; exact ⟨M, rfl, hM⟩
  | land => obtain ⟨y, x, t, rfl, he⟩ := mm_jj_inv hj; cases he; exact ⟨M, rfl, hM⟩
  | lor => obtain ⟨y, x, t, rfl, he⟩ := mm_jj_inv hj; cases he; exact ⟨M, rfl, hM⟩
  | ldiv => obtain ⟨y, x, t, rfl, he⟩ := mm_jn_inv hj; cases he; exact ⟨M, rfl, hM⟩
  | lrem => obtain ⟨y, x, t, rfl, he⟩ := mm_jn_inv hj; cases he; exact ⟨M, rfl, hM⟩
  | lshl => obtain ⟨y, x, t, rfl, he⟩ := mm_ij_inv hj; cases he; exact ⟨M, rfl, hM⟩
  | lcmp => obtain ⟨y, x, t, rfl, he⟩ := mm_ji_inv hj; cases he; exact ⟨M, rfl, hM⟩
  | ineg => obtain ⟨x, t, rfl, he⟩ := mm_i1_inv hj; cases he; exact ⟨M, rfl, hM⟩
  | i2l => obtain ⟨x, t, rfl, he⟩ := mm_i1_inv hj; cases he; exact ⟨M, rfl, hM⟩
  | i2b => obtain ⟨x, t, rfl, he⟩ := mm_i1_inv hj; cases he; exact ⟨M, rfl, hM⟩
  | i2s => obtain ⟨x, t, rfl, he⟩ := mm_i1_inv hj; cases he; exact ⟨M, rfl, hM⟩
  | l2i => obtain ⟨x, t, rfl, he⟩ := mm_j1_inv hj; cases he; exact ⟨M, rfl, hM⟩
  | iconst n => cases hj; exact ⟨M, rfl, hM⟩
  | goto_w n => cases hj; exact ⟨M, rfl, hM⟩
  | aconst_null => cases hj; exact ⟨M, rfl, hM⟩
  | new n => cases hj; exact ⟨M, rfl, hM⟩
  | iload n =>
    obtain ⟨x, hx, he⟩ := mm_ldi_inv hj
    cases he
    refine ⟨M, ?_, hM⟩
    show mm_ldi n M st w = _
    unfold mm_ldi
    rw [mm_lsb_get hM hx]
  | lload n =>
    obtain ⟨x, hx, he⟩ := mm_ldl_inv hj
    cases he
    refine ⟨M, ?_, hM⟩
    show mm_ldl n M st w = _
    unfold mm_ldl
    rw [mm_lsb_get hM hx]
  | aload n =>
    rcases mm_lda_inv hj with ⟨x, hx, he⟩ | ⟨hx, he⟩
    · cases he
      refine ⟨M, ?_, hM⟩
      show mm_lda n M st w = _
      unfold mm_lda
      rw [mm_lsb_get hM hx]
    · cases he
      refine ⟨M, ?_, hM⟩
      show mm_lda n M st w = _
      unfold mm_lda
      rw [mm_lsb_get hM hx]
  | istore n =>
    obtain ⟨x, t, L1, rfl, hs, he⟩ := mm_sti_inv hj
    cases he
    obtain ⟨M1, h1, h2⟩ := mm_set1_mono hM hs
    refine ⟨M1, ?_, h2⟩
    show (mm_set1 M n _).map _ = _
    rw [h1]
    rfl
  | lstore n =>
    obtain ⟨x, t, L1, rfl, hs, he⟩ := mm_stl_inv hj
    cases he
    obtain ⟨M1, h1, h2⟩ := mm_set2_mono hM hs
    refine ⟨M1, ?_, h2⟩
    show (mm_set2 M n _).map _ = _
    rw [h1]
    rfl
  | astore n =>
    rcases mm_sta_inv hj with ⟨x, t, L1, rfl, hs, he⟩ | ⟨t, L1, rfl, hs, he⟩
    · cases he
      obtain ⟨M1, h1, h2⟩ := mm_set1_mono hM hs
      refine ⟨M1, ?_, h2⟩
      show (mm_set1 M n _).map _ = _
      rw [h1]
      rfl
    · cases he
      obtain ⟨M1, h1, h2⟩ := mm_set1_mono hM hs
      refine ⟨M1, ?_, h2⟩
      show (mm_set1 M n _).map _ = _
      rw [h1]
      rfl
  | iinc n d =>
    obtain ⟨x, L1, hx, hs, he⟩ := mm_inc_inv hj
    cases he
    obtain ⟨M1, h1, h2⟩ := mm_set1_mono hM hs
    refine ⟨M1, ?_, h2⟩
    show mm_inc n d M st w = _
    unfold mm_inc
    rw [mm_lsb_get hM hx]
    show (mm_set1 M n _).map _ = _
    rw [h1]
    rfl
  | dup =>
    replace hj : mm_dup lo st w = some (P, lo', st', w') := hj
    unfold mm_dup at hj
    split at hj
    · obtain ⟨hb, he⟩ := mm_cond_inv hj
      cases he
      refine ⟨M, ?_, hM⟩
      show mm_cond _ _ = _
      rw [hb]
      rfl
    · cases hj
  | dup2 =>
    replace hj : mm_dup2 lo st w = some (P, lo', st', w') := hj
    unfold mm_dup2 at hj
    split at hj
    · obtain ⟨hb, he⟩ := mm_cond_inv hj
      cases he
      refine ⟨M, ?_, hM⟩
      show mm_cond _ _ = _
      rw [hb]
      rfl
    · cases hj
  | pop =>
    replace hj : mm_pop lo st w = some (P, lo', st', w') := hj
    unfold mm_pop at hj
    split at hj
    · obtain ⟨hb, he⟩ := mm_cond_inv hj
      cases he
      refine ⟨M, ?_, hM⟩
      show mm_cond _ _ = _
      rw [hb]
      rfl
    · cases hj
  | arraylength =>
    replace hj : mm_len lo st w = some (P, lo', st', w') := hj
    unfold mm_len at hj
    split at hj
    · obtain ⟨hb, he⟩ := mm_cond_inv hj
      cases he
      refine ⟨M, ?_, hM⟩
      show mm_cond _ _ = _
      rw [hb]
      rfl
    · cases hj
  | getstatic n =>
    obtain ⟨hb, he⟩ := mm_cond_inv hj
    cases he
    refine ⟨M, ?_, hM⟩
    show mm_cond _ _ = _
    rw [hb]
    rfl
  | lastore =>
    replace hj : mm_jst lo st w = some (P, lo', st', w') := hj
    unfold mm_jst at hj
    split at hj
    · obtain ⟨hb, he⟩ := mm_cond_inv hj
      cases he
      refine ⟨M, ?_, hM⟩
      show mm_cond _ _ = _
      rw [hb]
      rfl
    · cases hj
  | aastore =>
    replace hj : mm_rst lo st w = some (P, lo', st', w') := hj
    unfold mm_rst at hj
    split at hj
    · obtain ⟨hb, he⟩ := mm_cond_inv hj
      cases he
      refine ⟨M, ?_, hM⟩
      show mm_cond _ _ = _
      rw [hb]
      rfl
    · cases hj
  | getfield n =>
    replace hj : mm_gf n lo st w = some (P, lo', st', w') := hj
    unfold mm_gf at hj
    split at hj
    · obtain ⟨hb, he⟩ := mm_cond_inv hj
      cases he
      refine ⟨M, ?_, hM⟩
      show mm_cond _ _ = _
      rw [hb]
      rfl
    · cases hj
  | monitorenter =>
    replace hj : mm_oi lo st w = some (P, lo', st', w') := hj
    unfold mm_oi at hj
    split at hj
    · obtain ⟨hb, he⟩ := mm_cond_inv hj
      cases he
      refine ⟨M, ?_, hM⟩
      show mm_cond _ _ = _
      rw [hb]
      rfl
    · cases hj
  | iaload =>
    obtain ⟨i, k, t, rfl, hb, he⟩ := mm_ald_inv (ok := fun k => Nat.beq k 0 || Nat.beq k 4) (f := fun w k i => .int (w.2.1 k i)) hj
    cases he
    refine ⟨M, ?_, hM⟩
    show mm_cond _ _ = _
    dsimp only
    rw [hb]
    rfl
  | baload =>
    obtain ⟨i, k, t, rfl, hb, he⟩ := mm_ald_inv (ok := fun k => Nat.beq k 1) (f := fun w k i => .int (w.2.1 k i)) hj
    cases he
    refine ⟨M, ?_, hM⟩
    show mm_cond _ _ = _
    dsimp only
    rw [hb]
    rfl
  | laload =>
    obtain ⟨i, k, t, rfl, hb, he⟩ := mm_ald_inv (ok := fun k => Nat.beq k 2 || Nat.beq k 5) (f := fun w k i => .long (w.2.2.1 k i)) hj
    cases he
    refine ⟨M, ?_, hM⟩
    show mm_cond _ _ = _
    dsimp only
    rw [hb]
    rfl
  | aaload =>
    obtain ⟨i, k, t, rfl, hb, he⟩ := mm_ald_inv (ok := fun k => Nat.beq k 3) (f := fun w k i => va_rf (w.2.2.2 k i)) hj
    cases he
    refine ⟨M, ?_, hM⟩
    show mm_cond _ _ = _
    dsimp only
    rw [hb]
    rfl
  | iastore =>
    obtain ⟨x, i, k, t, rfl, hk, he⟩ := mm_ist_inv (kd := 0) (f := fun x => x) hj
    cases he
    refine ⟨M, ?_, hM⟩
    show mm_cond _ _ = _
    rw [hk]
    rfl
  | bastore =>
    obtain ⟨x, i, k, t, rfl, hk, he⟩ := mm_ist_inv (kd := 1) (f := vp_nar .boolean) hj
    cases he
    refine ⟨M, ?_, hM⟩
    show mm_cond _ _ = _
    rw [hk]
    rfl
  | putfield n =>
    replace hj : mm_pf n lo st w = some (P, lo', st', w') := hj
    unfold mm_pf at hj
    split at hj
    · rename_i v k t
      obtain ⟨hb, he⟩ := mm_cond_inv hj
      have key : lo' = lo ∧ ∀ N : mm_L, mm_pv (mm_ty (n / 64) (n % 64)) k (n % 64) v N t w = some (P, N, st', w') := by
        generalize mm_ty (n / 64) (n % 64) = ty at he ⊢
        unfold mm_pv at he ⊢
        split at he <;> cases he <;> exact ⟨rfl, fun N => rfl⟩
      obtain ⟨rfl, k2⟩ := key
      refine ⟨M, ?_, hM⟩
      show mm_cond _ _ = _
      rw [hb]
      exact k2 M
    · cases hj
  | newarray t =>
    replace hj : mm_nat t lo st w = some (P, lo', st', w') := hj
    unfold mm_nat at hj
    split at hj
    · obtain ⟨n, t, rfl, he⟩ := mm_na_inv hj; cases he; exact ⟨M, rfl, hM⟩
    · obtain ⟨n, t, rfl, he⟩ := mm_na_inv hj; cases he; exact ⟨M, rfl, hM⟩
    · obtain ⟨n, t, rfl, he⟩ := mm_na_inv hj; cases he; exact ⟨M, rfl, hM⟩
    · cases hj
  | anewarray t => obtain ⟨n, t, rfl, he⟩ := mm_na_inv (kd := 3) hj; cases he; exact ⟨M, rfl, hM⟩
  | ldc k =>
    replace hj : mm_ma k lo st w = some (P, lo', st', w') := hj
    unfold mm_ma at hj
    split at hj
    · obtain ⟨hb, he⟩ := mm_cond_inv hj; cases he; refine ⟨M, ?_, hM⟩; show mm_cond _ _ = _; rw [hb]; rfl
    · obtain ⟨hb, he⟩ := mm_cond_inv hj; cases he; refine ⟨M, ?_, hM⟩; show mm_cond _ _ = _; rw [hb]; rfl
    · obtain ⟨hb, he⟩ := mm_cond_inv hj; cases he; refine ⟨M, ?_, hM⟩; show mm_cond _ _ = _; rw [hb]; rfl
    · obtain ⟨hb, he⟩ := mm_cond_inv hj; cases he; refine ⟨M, ?_, hM⟩; show mm_cond _ _ = _; rw [hb]; rfl
    · cases hj
  | monitorexit =>
    replace hj : mm_ac lo st w = some (P, lo', st', w') := hj
    unfold mm_ac at hj
    split at hj
    · rename_i n dp b sp a t
      obtain ⟨hb, he⟩ := mm_cond_inv hj
      cases hq : (Nat.beq (mm_nth w.1 a).1 0 && Nat.beq (mm_nth w.1 b).1 0) with
      | true =>
        rw [hq] at he
        cases he
        refine ⟨M, ?_, hM⟩
        show mm_cond _ _ = _
        rw [hb, hq]
        rfl
      | false =>
        rw [hq] at he
        obtain ⟨hb2, he⟩ := mm_cond_inv he
        cases he
        refine ⟨M, ?_, hM⟩
        show mm_cond _ _ = _
        rw [hb, hq]
        show mm_cond _ _ = _
        rw [hb2]
        rfl
    · cases hj
  | _ => cases hj
theorem mm_ex_mono : ∀ (n pc : Nat) (L M : mm_L) (st : List Value) (w : mm_W), mm_lsb L M → mm_Ex Cl o ini cc rt n pc L st w r w1 → mm_Ex Cl o ini cc rt n pc M st w r w1
  | 0, _, _, _, _, _, _, h => h.elim
  | n + 1, pc, L, M, st, w, hM, h => by
    obtain ⟨i, len, j, hd, hr, h⟩ := h
    refine ⟨i, len, j, hd, hr, ?_⟩
    rcases h with ⟨P, L', st', w', hj, hP, h⟩ | ⟨pc', st', hb, h⟩ | h | ⟨y, as, t, r', w', hc, hcl, h⟩
    · obtain ⟨M', h1, h2⟩ := mm_seq_mono hM hj
      exact Or.inl ⟨P, M', st', w', h1, hP, mm_ex_mono n _ _ _ _ _ h2 h⟩
    · exact Or.inr (Or.inl ⟨pc', st', hb, mm_ex_mono n _ _ _ _ _ hM h⟩)
    · exact Or.inr (Or.inr (Or.inl h))
    · exact Or.inr (Or.inr (Or.inr ⟨y, as, t, r', w', hc, hcl, mm_ex_mono n _ _ _ _ _ hM h⟩))
/-- it runs to its end -/
def mm_Go (Cl : mm_Cl) (o : Nat) (ini : Bool) (cc : ByteArray) (rt : Option FieldType) (pc : Nat) (lo : mm_L) (st : List Value) (w : mm_W) (r : Option Value) (w1 : mm_W) : Prop := ∃ n, mm_Ex Cl o ini cc rt n pc lo st w r w1
def mm_is1 (o : Nat) (ini : Bool) (cc : ByteArray) (pc : Nat) (j : Instr) (len : Nat) : Bool := match decode cc pc with
  | .ok q => Nat.beq q.2 len && decide (mm_res o ini q.1 q.2 = some j)
  | .error _ => false
theorem mm_is1_ok {len : Nat} (h : mm_is1 o ini cc pc j len = true) : ∃ i, decode cc pc = .ok (i, len) ∧ mm_res o ini i len = some j := by
  unfold mm_is1 at h
  split at h
  · rename_i q hq
    rw [Bool.and_eq_true] at h
    have e := Nat.eq_of_beq_eq_true h.1
    refine ⟨q.1, ?_, ?_⟩
    · rw [hq, ← e]
    · rw [← e]
      exact of_decide_eq_true h.2
  · cases h
def mm_chk (o : Nat) (ini : Bool) (cc : ByteArray) : Nat → List (Instr × Nat) → Bool
  | _, [] => true
  | pc, a :: l => mm_is1 o ini cc pc a.1 a.2 && mm_chk o ini cc (pc + a.2) l
def mm_ln : Nat → List (Instr × Nat) → Nat
  | pc, [] => pc
  | pc, a :: l => mm_ln (pc + a.2) l
def mm_bl : List (Instr × Nat) → mm_L → List Value → mm_W → mm_Rs
  | [], L, st, w => some (True, L, st, w)
  | a :: l, L, st, w => match mm_seq a.1 L st w with
    | none => none
    | some r => match mm_bl l r.2.1 r.2.2.1 r.2.2.2 with
      | none => none
      | some r2 => some (r.1 ∧ r2.1, r2.2)
theorem mm_go_bl : ∀ (l : List (Instr × Nat)) (pc : Nat) (lo : mm_L) (st : List Value) (w : mm_W) (P : Prop) (lo' : mm_L) (st' : List Value) (w' : mm_W), mm_chk o ini cc pc l = true → mm_bl l lo st w = some (P, lo', st', w') → P → mm_Go Cl o ini cc rt (mm_ln pc l) lo' st' w' r w1 → mm_Go Cl o ini cc rt pc lo st w r w1
  | [], pc, lo, st, w, P, lo', st', w', _, hb, _, h => by
    cases hb
    exact h
  | a :: l, pc, lo, st, w, P, lo', st', w', hc, hb, hP, h => by
    unfold mm_chk at hc
    rw [Bool.and_eq_true] at hc
    obtain ⟨i, hd, hr⟩ := mm_is1_ok hc.1
    unfold mm_bl at hb
    split at hb
    · cases hb
    · rename_i q hq
      split at hb
      · cases hb
      · rename_i q2 hq2
        obtain ⟨p2, l2, s2, w2⟩ := q2
        cases hb
        obtain ⟨n, hn⟩ := mm_go_bl l _ _ _ _ _ _ _ _ hc.2 hq2 hP.2 h
        exact ⟨n + 1, i, a.2, a.1, hd, hr, Or.inl ⟨_, _, _, _, hq, hP.1, hn⟩⟩
theorem mm_go_br {len pc' : Nat} (hc : mm_chk o ini cc pc [(j, len)] = true) (hb : mm_br j pc st = some (pc', st')) (h : mm_Go Cl o ini cc rt pc' lo st' w r w1) : mm_Go Cl o ini cc rt pc lo st w r w1 := by
  unfold mm_chk at hc
  rw [Bool.and_eq_true] at hc
  obtain ⟨i, hd, hr⟩ := mm_is1_ok hc.1
  obtain ⟨n, hn⟩ := h
  exact ⟨n + 1, i, len, j, hd, hr, Or.inr (Or.inl ⟨pc', st', hb, hn⟩)⟩
theorem mm_go_ret {len : Nat} (hc : mm_chk o ini cc pc [(j, len)] = true) (hr : mm_ret j rt st r) : mm_Go Cl o ini cc rt pc lo st w r w := by
  unfold mm_chk at hc
  rw [Bool.and_eq_true] at hc
  obtain ⟨i, hd, hr2⟩ := mm_is1_ok hc.1
  exact ⟨1, i, len, j, hd, hr2, Or.inr (Or.inr (Or.inl ⟨hr, rfl⟩))⟩
theorem mm_go_call {len y : Nat} {as t : List Value} {r' : Option Value} (hc : mm_chk o ini cc pc [(j, len)] = true) (hj : mm_call j st w = some (y, as, t)) (hcl : Cl y as w r' w') (h : mm_Go Cl o ini cc rt (pc + 3) lo (r'.toList ++ t) w' r w1) : mm_Go Cl o ini cc rt pc lo st w r w1 := by
  unfold mm_chk at hc
  rw [Bool.and_eq_true] at hc
  obtain ⟨i, hd, hr2⟩ := mm_is1_ok hc.1
  obtain ⟨n, hn⟩ := h
  exact ⟨n + 1, i, len, j, hd, hr2, Or.inr (Or.inr (Or.inr ⟨y, as, t, r', w', hj, hcl, hn⟩))⟩
theorem mm_go_sub (hs : mm_lsb lo M) (h : mm_Go Cl o ini cc rt pc lo st w r w1) : mm_Go Cl o ini cc rt pc M st w r w1 := by
  obtain ⟨n, hn⟩ := h
  exact ⟨n, mm_ex_mono n _ _ _ _ _ hs hn⟩
end MMB
/-! the two objects' world: shapes and references stay -/
abbrev mm_Q : Type := (Nat → Nat → Int32) × (Nat → Nat → Int64)
def mm_S (L : Nat) : List (Nat × Nat) := (4, L) :: [(4, 13), (4, 13), (4, 13), (5, 10), (4, 32), (4, 8), (21, 11), (14, 2), (0, 54), (15, 4), (0, 200), (0, 64), (0, 6), (20, 7), (3, 6), (18, 5), (2, 60), (18, 5), (2, 60), (18, 5), (2, 60), (18, 5), (2, 60), (18, 5), (2, 60), (18, 5), (2, 60), (19, 5), (0, 120), (0, 200), (11, 5), (0, 40), (0, 40), (0, 40), (17, 10), (0, 7), (0, 49), (0, 128), (12, 13), (0, 6), (0, 6), (0, 9), (0, 9), (16, 4), (0, 60), (13, 3), (0, 21), (0, 21), (10, 5), (0, 50), (0, 24), (22, 48), (0, 54), (0, 40), (0, 40), (0, 40), (0, 120), (0, 120), (0, 6), (0, 57344), (1, 8192), (0, 7), (0, 7), (0, 6), (0, 6), (0, 6), (0, 6), (0, 21), (0, 50), (0, 24), (0, 6), (0, 6), (2, 360), (2, 60)]
def mm_gn : List (Nat → Option Nat) → Nat → Nat → Option Nat
  | [], _ => fun _ => none
  | a :: _, 0 => a
  | _ :: l, n + 1 => mm_gn l n
def mm_G : Nat → Nat → Option Nat := mm_gn [(fun _ => none), (fun _ => none), (fun _ => none), (fun _ => none), (fun _ => none), (fun _ => none), (fun _ => none), (va_up (va_up (va_up (va_up (va_up (va_up (va_up (va_up (va_up (va_up (va_up (fun _ => none) 0 (some 8)) 1 (some 28)) 2 (some 10)) 3 (some 31)) 4 (some 14)) 5 (some 35)) 6 (some 39)) 7 (some 44)) 8 (some 46)) 9 (some 49)) 10 (some 15)), (va_up (fun _ => none) 0 (some 9)), (fun _ => none), (va_up (va_up (va_up (fun _ => none) 0 (some 11)) 1 (some 12)) 2 (some 13)), (fun _ => none), (fun _ => none), (fun _ => none), (va_up (va_up (fun _ => none) 0 (some 8)) 1 (some 10)), (va_up (va_up (va_up (va_up (va_up (va_up (fun _ => none) 0 (some 16)) 1 (some 18)) 2 (some 20)) 3 (some 22)) 4 (some 24)) 5 (some 26)), (va_up (fun _ => none) 0 (some 17)), (fun _ => none), (va_up (fun _ => none) 0 (some 19)), (fun _ => none), (va_up (fun _ => none) 0 (some 21)), (fun _ => none), (va_up (fun _ => none) 0 (some 23)), (fun _ => none), (va_up (fun _ => none) 0 (some 25)), (fun _ => none), (va_up (fun _ => none) 0 (some 27)), (fun _ => none), (va_up (va_up (fun _ => none) 0 (some 29)) 1 (some 30)), (fun _ => none), (fun _ => none), (va_up (va_up (va_up (fun _ => none) 0 (some 32)) 1 (some 33)) 2 (some 34)), (fun _ => none), (fun _ => none), (fun _ => none), (va_up (va_up (va_up (va_up (va_up (fun _ => none) 0 (some 8)) 1 (some 14)) 2 (some 36)) 3 (some 37)) 4 (some 38)), (fun _ => none), (fun _ => none), (fun _ => none), (va_up (va_up (va_up (va_up (va_up (va_up (fun _ => none) 0 (some 8)) 1 (some 14)) 2 (some 40)) 3 (some 41)) 4 (some 42)) 5 (some 43)), (fun _ => none), (fun _ => none), (fun _ => none), (fun _ => none), (va_up (va_up (va_up (fun _ => none) 0 (some 8)) 1 (some 14)) 2 (some 45)), (fun _ => none), (va_up (va_up (fun _ => none) 0 (some 48)) 1 (some 47)), (fun _ => none), (fun _ => none), (va_up (va_up (fun _ => none) 0 (some 50)) 1 (some 51)), (fun _ => none), (fun _ => none), (va_up (va_up (va_up (va_up (va_up (va_up (va_up (va_up (va_up (va_up (va_up (va_up (va_up (va_up (va_up (va_up (va_up (va_up (va_up (va_up (va_up (va_up (fun _ => none) 0 (some 53)) 1 (some 54)) 2 (some 55)) 3 (some 56)) 7 (some 57)) 9 (some 58)) 16 (some 59)) 18 (some 60)) 19 (some 61)) 20 (some 62)) 21 (some 63)) 25 (some 64)) 29 (some 65)) 30 (some 66)) 31 (some 67)) 37 (some 68)) 39 (some 69)) 40 (some 70)) 44 (some 71)) 45 (some 72)) 46 (some 73)) 47 (some 74)), (fun _ => none), (fun _ => none), (fun _ => none), (fun _ => none), (fun _ => none), (fun _ => none), (fun _ => none), (fun _ => none), (fun _ => none), (fun _ => none), (fun _ => none), (fun _ => none), (fun _ => none), (fun _ => none), (fun _ => none), (fun _ => none), (fun _ => none), (fun _ => none), (fun _ => none), (fun _ => none), (fun _ => none), (fun _ => none)]
def mm_wq (L : Nat) (q : mm_Q) : mm_W := (mm_S L, q.1, q.2, mm_G)
def mm_si (q : mm_Q) (k j : Nat) (x : Int32) : mm_Q := (mm_uc q.1 k (upd (q.1 k) j x), q.2)
def mm_sj (q : mm_Q) (k j : Nat) (x : Int64) : mm_Q := (q.1, mm_uc q.2 k (vp_updL (q.2 k) j x))
def mm_ci (q : mm_Q) (a b sp dp n : Nat) : mm_Q := (mm_uc q.1 b (va_cpy (q.1 a) (q.1 b) sp dp n), q.2)
def mm_cj (q : mm_Q) (a b sp dp n : Nat) : mm_Q := (q.1, mm_uc q.2 b (va_cpy (q.2 a) (q.2 b) sp dp n))
/-- the words of the written-out methods: a check, a name, a call -/
def mm_ck {α : Type} (b : Bool) (e : Option α) : Option α := match b with
  | true => e
  | false => none
def mm_lt {α β : Type} (v : β) (f : β → Option α) : Option α := f v
def mm_cl {α β : Type} (e : Option (β × mm_Q)) (f : β → mm_Q → Option α) : Option α := match e with
  | none => none
  | some p => f p.1 p.2
def mm_om {α : Type} (x : Option Nat) (A : Option α) (B : Nat → Option α) : Option α := match x with
  | none => A
  | some h => B h
def mm_inb (i : Int32) (n : Nat) : Bool := decide (0 ≤ i) && decide (i.toNatClampNeg < n)
def mm_cp (sp dp n : Int32) (a b : Nat) : Bool := decide (0 ≤ sp) && decide (0 ≤ dp) && decide (0 ≤ n) && Nat.ble (sp.toNatClampNeg + n.toNatClampNeg) a && Nat.ble (dp.toNatClampNeg + n.toNatClampNeg) b
def mm_bb (x : Int32) : Bool := x == 0 || x == 1
def mm_sh (h : Nat) : Prop := h = 16 ∨ h = 18 ∨ h = 20 ∨ h = 22 ∨ h = 24 ∨ h = 26
def mm_shb (h : Nat) : Bool := Nat.beq h 16 || Nat.beq h 18 || Nat.beq h 20 || Nat.beq h 22 || Nat.beq h 24 || Nat.beq h 26
theorem mm_inb_ix {i : Int32} {n : Nat} (h : mm_inb i n = true) : mm_ix i n := by
  unfold mm_inb at h
  simp only [Bool.and_eq_true, decide_eq_true_eq] at h
  intro z
  rcases z with z | z
  · exact Int32.not_lt.mpr h.1 z
  · omega
theorem mm_cp_ok {sp dp n : Int32} {a b : Nat} (h : mm_cp sp dp n a b = true) : (¬ sp < 0 ∧ ¬ dp < 0 ∧ ¬ n < 0) ∧ sp.toNatClampNeg + n.toNatClampNeg ≤ a ∧ dp.toNatClampNeg + n.toNatClampNeg ≤ b := by
  unfold mm_cp at h
  simp only [Bool.and_eq_true, decide_eq_true_eq] at h
  obtain ⟨⟨⟨⟨h1, h2⟩, h3⟩, h4⟩, h5⟩ := h
  exact ⟨⟨Int32.not_lt.mpr h1, Int32.not_lt.mpr h2, Int32.not_lt.mpr h3⟩, Nat.le_of_ble_eq_true h4, Nat.le_of_ble_eq_true h5⟩
theorem mm_bb_ok {x : Int32} (h : mm_bb x = true) : x = 0 ∨ x = 1 := by
  unfold mm_bb at h
  simpa using h
theorem mm_shb_ok {h : Nat} (hh : mm_shb h = true) : mm_sh h := by
  unfold mm_shb at hh
  simp only [Bool.or_eq_true] at hh
  unfold mm_sh
  rcases hh with ((((hh | hh) | hh) | hh) | hh) | hh <;> have := Nat.eq_of_beq_eq_true hh <;> omega
def mm_cvi : Int32 → Option Value := fun x => some (.int x)
def mm_cvl : Int64 → Option Value := fun x => some (.long x)
def mm_cvu : Unit → Option Value := fun _ => none
def mm_cvr : Option Nat → Option Value := fun x => some (va_rf x)
section MMO
variable {α : Type} {cv : α → Option Value} {Cl : mm_Cl} {o : Nat} {ini : Bool} {cc : ByteArray} {rt : Option FieldType} {L : Nat} {pc : Nat} {lo lo' : mm_L} {st st' t : List Value} {q q' : mm_Q} {e A B : Option (α × mm_Q)} {P : Prop}
/-- from here the code does what e says -/
def mm_ok {α : Type} (cv : α → Option Value) (Cl : mm_Cl) (o : Nat) (ini : Bool) (cc : ByteArray) (rt : Option FieldType) (L : Nat) (pc : Nat) (lo : mm_L) (st : List Value) (q : mm_Q) (e : Option (α × mm_Q)) : Prop := ∀ (a : α) (q' : mm_Q), e = some (a, q') → mm_Go Cl o ini cc rt pc lo st (mm_wq L q) (cv a) (mm_wq L q')
theorem mm_ok_none : mm_ok cv Cl o ini cc rt L pc lo st q none := fun _ _ h => by cases h
theorem mm_ok_ck {b : Bool} (h : b = true → mm_ok cv Cl o ini cc rt L pc lo st q e) : mm_ok cv Cl o ini cc rt L pc lo st q (mm_ck b e) := by
  intro a q1 h1
  cases b
  · cases h1
  · exact h rfl a q1 h1
theorem mm_ok_lt {v : mm_Q} {f : mm_Q → Option (α × mm_Q)} (h : ∀ q1, mm_ok cv Cl o ini cc rt L pc lo st q1 (f q1)) : mm_ok cv Cl o ini cc rt L pc lo st v (mm_lt v f) := h v
theorem mm_ok_lti {x : Int32} {f : Int32 → Option (α × mm_Q)} {lo1 : Int32 → mm_L} {st1 : Int32 → List Value} (h : ∀ v, mm_ok cv Cl o ini cc rt L pc (lo1 v) (st1 v) q (f v)) : mm_ok cv Cl o ini cc rt L pc (lo1 x) (st1 x) q (mm_lt x f) := h x
theorem mm_ok_ltl {x : Int64} {f : Int64 → Option (α × mm_Q)} {lo1 : Int64 → mm_L} {st1 : Int64 → List Value} (h : ∀ v, mm_ok cv Cl o ini cc rt L pc (lo1 v) (st1 v) q (f v)) : mm_ok cv Cl o ini cc rt L pc (lo1 x) (st1 x) q (mm_lt x f) := h x
theorem mm_ok_bl {l : List (Instr × Nat)} {pc' : Nat} (hc : mm_chk o ini cc pc l = true) (hb : mm_bl l lo st (mm_wq L q) = some (P, lo', st', mm_wq L q')) (hpc : mm_ln pc l = pc') (hP : P) (h : mm_ok cv Cl o ini cc rt L pc' lo' st' q' e) : mm_ok cv Cl o ini cc rt L pc lo st q e := by
  intro a q1 h1
  subst hpc
  exact mm_go_bl l pc lo st _ P _ _ _ hc hb hP (h a q1 h1)
theorem mm_ok_sub (hs : mm_lsb lo lo') (h : mm_ok cv Cl o ini cc rt L pc lo st q e) : mm_ok cv Cl o ini cc rt L pc lo' st q e := fun a q1 h1 => mm_go_sub hs (h a q1 h1)
theorem mm_ok_goto {d : Int} {pt : Nat} (hc : mm_chk o ini cc pc [(.goto d, 3)] = true) (hp : (pc : Int) + d = (pt : Int)) (h : mm_ok cv Cl o ini cc rt L pt lo st q e) : mm_ok cv Cl o ini cc rt L pc lo st q e := by
  intro a q1 h1
  refine mm_go_br (pc' := pt) (st' := st) hc ?_ (h a q1 h1)
  show cond (decide (0 ≤ (pc : Int) + d)) (some (mm_tgt pc d, st)) none = _
  rw [hp, decide_eq_true (Int.natCast_nonneg pt)]
  unfold mm_tgt
  rw [hp]
  rfl
theorem mm_ok_call {β : Type} {cz : β → Option Value} {j : Instr} {y : Nat} {as : List Value} {e1 : Option (β × mm_Q)} {f : β → mm_Q → Option (α × mm_Q)} (hc : mm_chk o ini cc pc [(j, 3)] = true) (hj : mm_call j st (mm_wq L q) = some (y, as, t)) (hz : ∀ a q1, e1 = some (a, q1) → Cl y as (mm_wq L q) (cz a) (mm_wq L q1)) (h : ∀ a q1, mm_ok cv Cl o ini cc rt L (pc + 3) lo ((cz a).toList ++ t) q1 (f a q1)) : mm_ok cv Cl o ini cc rt L pc lo st q (mm_cl e1 f) := by
  intro a q1 h1
  cases e1 with
  | none => cases h1
  | some p => exact mm_go_call hc hj (hz p.1 p.2 rfl) (h p.1 p.2 a q1 h1)
theorem mm_ok_ifnull {x : Option Nat} {d : Int} {pt : Nat} {B : Nat → Option (α × mm_Q)} (hc : mm_chk o ini cc pc [(.ifnull d, 3)] = true) (hp : (pc : Int) + d = (pt : Int)) (hA : x = none → mm_ok cv Cl o ini cc rt L pt lo t q A) (hB : ∀ h, x = some h → mm_ok cv Cl o ini cc rt L (pc + 3) lo t q (B h)) : mm_ok cv Cl o ini cc rt L pc lo (va_rf x :: t) q (mm_om x A B) := by
  intro a q1 h1
  cases x with
  | none =>
    refine mm_go_br (pc' := pt) (st' := t) hc ?_ (hA rfl a q1 h1)
    show cond (decide (0 ≤ (pc : Int) + d)) (some (mm_tgt pc d, t)) none = _
    rw [hp, decide_eq_true (Int.natCast_nonneg pt)]
    unfold mm_tgt
    rw [hp]
    rfl
  | some h => exact mm_go_br (pc' := pc + 3) (st' := t) hc rfl (hB h rfl a q1 h1)
theorem mm_ok_ifnonnull {x : Option Nat} {d : Int} {pt : Nat} {B : Nat → Option (α × mm_Q)} (hc : mm_chk o ini cc pc [(.ifnonnull d, 3)] = true) (hp : (pc : Int) + d = (pt : Int)) (hA : x = none → mm_ok cv Cl o ini cc rt L (pc + 3) lo t q A) (hB : ∀ h, x = some h → mm_ok cv Cl o ini cc rt L pt lo t q (B h)) : mm_ok cv Cl o ini cc rt L pc lo (va_rf x :: t) q (mm_om x A B) := by
  intro a q1 h1
  cases x with
  | none => exact mm_go_br (pc' := pc + 3) (st' := t) hc rfl (hA rfl a q1 h1)
  | some h =>
    refine mm_go_br (pc' := pt) (st' := t) hc ?_ (hB h rfl a q1 h1)
    show cond (decide (0 ≤ (pc : Int) + d)) (some (mm_tgt pc d, t)) none = _
    rw [hp, decide_eq_true (Int.natCast_nonneg pt)]
    unfold mm_tgt
    rw [hp]
    rfl
theorem mm_ok_ifCond_eq {x : Int32} {d : Int} {pt : Nat} (hc : mm_chk o ini cc pc [(.ifCond .eq d, 3)] = true) (hp : (pc : Int) + d = (pt : Int)) (hA : x = 0 → mm_ok cv Cl o ini cc rt L (pt) lo t q A) (hB : ¬ x = 0 → mm_ok cv Cl o ini cc rt L (pc + 3) lo t q B) : mm_ok cv Cl o ini cc rt L pc lo (.int x :: t) q (if x = 0 then A else B) := by
  intro a q1 h1
  have e1 : mm_br (.ifCond .eq d) pc (.int x :: t) = some (if x = 0 then pt else pc + 3, t) := by
    show cond (decide (0 ≤ (pc : Int) + d)) (some (if x = 0 then mm_tgt pc d else pc + 3, t)) none = _
    rw [hp, decide_eq_true (Int.natCast_nonneg pt)]
    unfold mm_tgt
    rw [hp]
    rfl
  by_cases hx : x = 0
  · rw [if_pos hx] at h1 e1
    exact mm_go_br hc e1 (hA hx a q1 h1)
  · rw [if_neg hx] at h1 e1
    exact mm_go_br hc e1 (hB hx a q1 h1)
theorem mm_ok_ifCond_ne {x : Int32} {d : Int} {pt : Nat} (hc : mm_chk o ini cc pc [(.ifCond .ne d, 3)] = true) (hp : (pc : Int) + d = (pt : Int)) (hA : x = 0 → mm_ok cv Cl o ini cc rt L (pc + 3) lo t q A) (hB : ¬ x = 0 → mm_ok cv Cl o ini cc rt L (pt) lo t q B) : mm_ok cv Cl o ini cc rt L pc lo (.int x :: t) q (if x = 0 then A else B) := by
  intro a q1 h1
  have e1 : mm_br (.ifCond .ne d) pc (.int x :: t) = some (if x = 0 then pc + 3 else pt, t) := by
    show cond (decide (0 ≤ (pc : Int) + d)) (some (if x = 0 then pc + 3 else mm_tgt pc d, t)) none = _
    rw [hp, decide_eq_true (Int.natCast_nonneg pt)]
    unfold mm_tgt
    rw [hp]
    rfl
  by_cases hx : x = 0
  · rw [if_pos hx] at h1 e1
    exact mm_go_br hc e1 (hA hx a q1 h1)
  · rw [if_neg hx] at h1 e1
    exact mm_go_br hc e1 (hB hx a q1 h1)
theorem mm_ok_ifCond_lt {x : Int32} {d : Int} {pt : Nat} (hc : mm_chk o ini cc pc [(.ifCond .lt d, 3)] = true) (hp : (pc : Int) + d = (pt : Int)) (hA : x < 0 → mm_ok cv Cl o ini cc rt L (pt) lo t q A) (hB : ¬ x < 0 → mm_ok cv Cl o ini cc rt L (pc + 3) lo t q B) : mm_ok cv Cl o ini cc rt L pc lo (.int x :: t) q (if x < 0 then A else B) := by
  intro a q1 h1
  have e1 : mm_br (.ifCond .lt d) pc (.int x :: t) = some (if x < 0 then pt else pc + 3, t) := by
    show cond (decide (0 ≤ (pc : Int) + d)) (some (if x < 0 then mm_tgt pc d else pc + 3, t)) none = _
    rw [hp, decide_eq_true (Int.natCast_nonneg pt)]
    unfold mm_tgt
    rw [hp]
    rfl
  by_cases hx : x < 0
  · rw [if_pos hx] at h1 e1
    exact mm_go_br hc e1 (hA hx a q1 h1)
  · rw [if_neg hx] at h1 e1
    exact mm_go_br hc e1 (hB hx a q1 h1)
theorem mm_ok_ifCond_ge {x : Int32} {d : Int} {pt : Nat} (hc : mm_chk o ini cc pc [(.ifCond .ge d, 3)] = true) (hp : (pc : Int) + d = (pt : Int)) (hA : 0 ≤ x → mm_ok cv Cl o ini cc rt L (pt) lo t q A) (hB : ¬ 0 ≤ x → mm_ok cv Cl o ini cc rt L (pc + 3) lo t q B) : mm_ok cv Cl o ini cc rt L pc lo (.int x :: t) q (if 0 ≤ x then A else B) := by
  intro a q1 h1
  have e1 : mm_br (.ifCond .ge d) pc (.int x :: t) = some (if 0 ≤ x then pt else pc + 3, t) := by
    show cond (decide (0 ≤ (pc : Int) + d)) (some (if 0 ≤ x then mm_tgt pc d else pc + 3, t)) none = _
    rw [hp, decide_eq_true (Int.natCast_nonneg pt)]
    unfold mm_tgt
    rw [hp]
    rfl
  by_cases hx : 0 ≤ x
  · rw [if_pos hx] at h1 e1
    exact mm_go_br hc e1 (hA hx a q1 h1)
  · rw [if_neg hx] at h1 e1
    exact mm_go_br hc e1 (hB hx a q1 h1)
theorem mm_ok_ifCond_gt {x : Int32} {d : Int} {pt : Nat} (hc : mm_chk o ini cc pc [(.ifCond .gt d, 3)] = true) (hp : (pc : Int) + d = (pt : Int)) (hA : 0 < x → mm_ok cv Cl o ini cc rt L (pt) lo t q A) (hB : ¬ 0 < x → mm_ok cv Cl o ini cc rt L (pc + 3) lo t q B) : mm_ok cv Cl o ini cc rt L pc lo (.int x :: t) q (if 0 < x then A else B) := by
  intro a q1 h1
  have e1 : mm_br (.ifCond .gt d) pc (.int x :: t) = some (if 0 < x then pt else pc + 3, t) := by
    show cond (decide (0 ≤ (pc : Int) + d)) (some (if 0 < x then mm_tgt pc d else pc + 3, t)) none = _
    rw [hp, decide_eq_true (Int.natCast_nonneg pt)]
    unfold mm_tgt
    rw [hp]
    rfl
  by_cases hx : 0 < x
  · rw [if_pos hx] at h1 e1
    exact mm_go_br hc e1 (hA hx a q1 h1)
  · rw [if_neg hx] at h1 e1
    exact mm_go_br hc e1 (hB hx a q1 h1)
theorem mm_ok_ifCond_le {x : Int32} {d : Int} {pt : Nat} (hc : mm_chk o ini cc pc [(.ifCond .le d, 3)] = true) (hp : (pc : Int) + d = (pt : Int)) (hA : x ≤ 0 → mm_ok cv Cl o ini cc rt L (pt) lo t q A) (hB : ¬ x ≤ 0 → mm_ok cv Cl o ini cc rt L (pc + 3) lo t q B) : mm_ok cv Cl o ini cc rt L pc lo (.int x :: t) q (if x ≤ 0 then A else B) := by
  intro a q1 h1
  have e1 : mm_br (.ifCond .le d) pc (.int x :: t) = some (if x ≤ 0 then pt else pc + 3, t) := by
    show cond (decide (0 ≤ (pc : Int) + d)) (some (if x ≤ 0 then mm_tgt pc d else pc + 3, t)) none = _
    rw [hp, decide_eq_true (Int.natCast_nonneg pt)]
    unfold mm_tgt
    rw [hp]
    rfl
  by_cases hx : x ≤ 0
  · rw [if_pos hx] at h1 e1
    exact mm_go_br hc e1 (hA hx a q1 h1)
  · rw [if_neg hx] at h1 e1
    exact mm_go_br hc e1 (hB hx a q1 h1)
theorem mm_ok_if_icmp_eq {x y : Int32} {d : Int} {pt : Nat} (hc : mm_chk o ini cc pc [(.if_icmp .eq d, 3)] = true) (hp : (pc : Int) + d = (pt : Int)) (hA : x = y → mm_ok cv Cl o ini cc rt L (pt) lo t q A) (hB : ¬ x = y → mm_ok cv Cl o ini cc rt L (pc + 3) lo t q B) : mm_ok cv Cl o ini cc rt L pc lo (.int y :: .int x :: t) q (if x = y then A else B) := by
  intro a q1 h1
  have e1 : mm_br (.if_icmp .eq d) pc (.int y :: .int x :: t) = some (if x = y then pt else pc + 3, t) := by
    show cond (decide (0 ≤ (pc : Int) + d)) (some (if x = y then mm_tgt pc d else pc + 3, t)) none = _
    rw [hp, decide_eq_true (Int.natCast_nonneg pt)]
    unfold mm_tgt
    rw [hp]
    rfl
  by_cases hx : x = y
  · rw [if_pos hx] at h1 e1
    exact mm_go_br hc e1 (hA hx a q1 h1)
  · rw [if_neg hx] at h1 e1
    exact mm_go_br hc e1 (hB hx a q1 h1)
theorem mm_ok_if_icmp_ne {x y : Int32} {d : Int} {pt : Nat} (hc : mm_chk o ini cc pc [(.if_icmp .ne d, 3)] = true) (hp : (pc : Int) + d = (pt : Int)) (hA : x = y → mm_ok cv Cl o ini cc rt L (pc + 3) lo t q A) (hB : ¬ x = y → mm_ok cv Cl o ini cc rt L (pt) lo t q B) : mm_ok cv Cl o ini cc rt L pc lo (.int y :: .int x :: t) q (if x = y then A else B) := by
  intro a q1 h1
  have e1 : mm_br (.if_icmp .ne d) pc (.int y :: .int x :: t) = some (if x = y then pc + 3 else pt, t) := by
    show cond (decide (0 ≤ (pc : Int) + d)) (some (if x = y then pc + 3 else mm_tgt pc d, t)) none = _
    rw [hp, decide_eq_true (Int.natCast_nonneg pt)]
    unfold mm_tgt
    rw [hp]
    rfl
  by_cases hx : x = y
  · rw [if_pos hx] at h1 e1
    exact mm_go_br hc e1 (hA hx a q1 h1)
  · rw [if_neg hx] at h1 e1
    exact mm_go_br hc e1 (hB hx a q1 h1)
theorem mm_ok_if_icmp_lt {x y : Int32} {d : Int} {pt : Nat} (hc : mm_chk o ini cc pc [(.if_icmp .lt d, 3)] = true) (hp : (pc : Int) + d = (pt : Int)) (hA : x < y → mm_ok cv Cl o ini cc rt L (pt) lo t q A) (hB : ¬ x < y → mm_ok cv Cl o ini cc rt L (pc + 3) lo t q B) : mm_ok cv Cl o ini cc rt L pc lo (.int y :: .int x :: t) q (if x < y then A else B) := by
  intro a q1 h1
  have e1 : mm_br (.if_icmp .lt d) pc (.int y :: .int x :: t) = some (if x < y then pt else pc + 3, t) := by
    show cond (decide (0 ≤ (pc : Int) + d)) (some (if x < y then mm_tgt pc d else pc + 3, t)) none = _
    rw [hp, decide_eq_true (Int.natCast_nonneg pt)]
    unfold mm_tgt
    rw [hp]
    rfl
  by_cases hx : x < y
  · rw [if_pos hx] at h1 e1
    exact mm_go_br hc e1 (hA hx a q1 h1)
  · rw [if_neg hx] at h1 e1
    exact mm_go_br hc e1 (hB hx a q1 h1)
theorem mm_ok_if_icmp_ge {x y : Int32} {d : Int} {pt : Nat} (hc : mm_chk o ini cc pc [(.if_icmp .ge d, 3)] = true) (hp : (pc : Int) + d = (pt : Int)) (hA : y ≤ x → mm_ok cv Cl o ini cc rt L (pt) lo t q A) (hB : ¬ y ≤ x → mm_ok cv Cl o ini cc rt L (pc + 3) lo t q B) : mm_ok cv Cl o ini cc rt L pc lo (.int y :: .int x :: t) q (if y ≤ x then A else B) := by
  intro a q1 h1
  have e1 : mm_br (.if_icmp .ge d) pc (.int y :: .int x :: t) = some (if y ≤ x then pt else pc + 3, t) := by
    show cond (decide (0 ≤ (pc : Int) + d)) (some (if y ≤ x then mm_tgt pc d else pc + 3, t)) none = _
    rw [hp, decide_eq_true (Int.natCast_nonneg pt)]
    unfold mm_tgt
    rw [hp]
    rfl
  by_cases hx : y ≤ x
  · rw [if_pos hx] at h1 e1
    exact mm_go_br hc e1 (hA hx a q1 h1)
  · rw [if_neg hx] at h1 e1
    exact mm_go_br hc e1 (hB hx a q1 h1)
theorem mm_ok_if_icmp_gt {x y : Int32} {d : Int} {pt : Nat} (hc : mm_chk o ini cc pc [(.if_icmp .gt d, 3)] = true) (hp : (pc : Int) + d = (pt : Int)) (hA : y < x → mm_ok cv Cl o ini cc rt L (pt) lo t q A) (hB : ¬ y < x → mm_ok cv Cl o ini cc rt L (pc + 3) lo t q B) : mm_ok cv Cl o ini cc rt L pc lo (.int y :: .int x :: t) q (if y < x then A else B) := by
  intro a q1 h1
  have e1 : mm_br (.if_icmp .gt d) pc (.int y :: .int x :: t) = some (if y < x then pt else pc + 3, t) := by
    show cond (decide (0 ≤ (pc : Int) + d)) (some (if y < x then mm_tgt pc d else pc + 3, t)) none = _
    rw [hp, decide_eq_true (Int.natCast_nonneg pt)]
    unfold mm_tgt
    rw [hp]
    rfl
  by_cases hx : y < x
  · rw [if_pos hx] at h1 e1
    exact mm_go_br hc e1 (hA hx a q1 h1)
  · rw [if_neg hx] at h1 e1
    exact mm_go_br hc e1 (hB hx a q1 h1)
theorem mm_ok_if_icmp_le {x y : Int32} {d : Int} {pt : Nat} (hc : mm_chk o ini cc pc [(.if_icmp .le d, 3)] = true) (hp : (pc : Int) + d = (pt : Int)) (hA : x ≤ y → mm_ok cv Cl o ini cc rt L (pt) lo t q A) (hB : ¬ x ≤ y → mm_ok cv Cl o ini cc rt L (pc + 3) lo t q B) : mm_ok cv Cl o ini cc rt L pc lo (.int y :: .int x :: t) q (if x ≤ y then A else B) := by
  intro a q1 h1
  have e1 : mm_br (.if_icmp .le d) pc (.int y :: .int x :: t) = some (if x ≤ y then pt else pc + 3, t) := by
    show cond (decide (0 ≤ (pc : Int) + d)) (some (if x ≤ y then mm_tgt pc d else pc + 3, t)) none = _
    rw [hp, decide_eq_true (Int.natCast_nonneg pt)]
    unfold mm_tgt
    rw [hp]
    rfl
  by_cases hx : x ≤ y
  · rw [if_pos hx] at h1 e1
    exact mm_go_br hc e1 (hA hx a q1 h1)
  · rw [if_neg hx] at h1 e1
    exact mm_go_br hc e1 (hB hx a q1 h1)
def mm_swl : List (Int × Int) → Int → Int32 → Int
  | [], d, _ => d
  | a :: l, d, x => if x = Int32.ofInt a.1 then a.2 else mm_swl l d x
theorem mm_swl_ok : ∀ (l : List (Int × Int)) (d : Int) (x : Int32), (l.all fun a => decide (-2147483648 ≤ a.1) && decide (a.1 < 2147483648)) = true → Op.lookupswitch.offset l d x.toInt = mm_swl l d x
  | [], _, _, _ => rfl
  | (a1, a2) :: l, d, x, h => by
    rw [List.all_cons, Bool.and_eq_true] at h
    obtain ⟨h1, h2⟩ := h
    simp only [Bool.and_eq_true, decide_eq_true_eq] at h1
    have e : (Int32.ofInt a1).toInt = a1 := Int32.toInt_ofInt_of_le (by omega) (by omega)
    unfold mm_swl Op.lookupswitch.offset
    rw [mm_swl_ok l d x h2]
    by_cases hx : x = Int32.ofInt a1
    · rw [if_pos hx, if_pos (by rw [hx, e])]
    · rw [if_neg hx, if_neg (fun z => hx (Int32.toInt_inj.mp (by rw [e]; exact z.symm)))]
theorem mm_ok_lsw {x : Int32} {d : Int} {ps : Array (Int × Int)} {len pt : Nat} (hc : mm_chk o ini cc pc [(.lookupswitch d ps, len)] = true) (hw : (ps.toList.all fun a => decide (-2147483648 ≤ a.1) && decide (a.1 < 2147483648)) = true)
    (hz : (ps.all (fun q => decide (0 ≤ (pc : Int) + q.2)) && decide (0 ≤ (pc : Int) + d) && (ps.toList.zip (ps.toList.drop 1)).all (fun (a, next) => a.1 < next.1)) = true) (hp : mm_tgt pc (mm_swl ps.toList d x) = pt) (h : mm_ok cv Cl o ini cc rt L pt lo t q e) : mm_ok cv Cl o ini cc rt L pc lo (.int x :: t) q e := by
  intro a q1 h1
  refine mm_go_br (pc' := pt) (st' := t) hc ?_ (h a q1 h1)
  unfold mm_br
  dsimp only
  rw [hz, mm_swl_ok _ _ _ hw, hp]
  rfl
theorem mm_ok_tsw {x : Int32} {d lo1 hi : Int} {os : Array Int} {len pt : Nat} (hc : mm_chk o ini cc pc [(.tableswitch d lo1 hi os, len)] = true)
    (hz : (os.all (fun q => decide (0 ≤ (pc : Int) + q)) && decide (0 ≤ (pc : Int) + d) && decide (os.size = (hi - lo1 + 1).toNat)) = true) (hp : (if x.toInt < lo1 ∨ hi < x.toInt then mm_tgt pc d else mm_tgt pc (os.toList.getD (x.toInt - lo1).toNat 0)) = pt) (h : mm_ok cv Cl o ini cc rt L pt lo t q e) : mm_ok cv Cl o ini cc rt L pc lo (.int x :: t) q e := by
  intro a q1 h1
  refine mm_go_br (pc' := pt) (st' := t) hc ?_ (h a q1 h1)
  unfold mm_br
  dsimp only
  rw [hz, hp]
  rfl
theorem mm_ok_if {c : Prop} [Decidable c] (hA : c → mm_ok cv Cl o ini cc rt L pc lo st q A) (hB : ¬ c → mm_ok cv Cl o ini cc rt L pc lo st q B) : mm_ok cv Cl o ini cc rt L pc lo st q (if c then A else B) := by
  by_cases hx : c
  · rw [if_pos hx]; exact hA hx
  · rw [if_neg hx]; exact hB hx
end MMO
section MMP
variable {Cl : mm_Cl} {o : Nat} {ini : Bool} {cc : ByteArray} {L : Nat} {pc : Nat} {lo : mm_L} {q : mm_Q}
theorem mm_ok_iret {x : Int32} (hc : mm_chk o ini cc pc [(.ireturn, 1)] = true) : mm_ok mm_cvi Cl o ini cc (some .int) L pc lo [.int x] q (some (x, q)) := by
  intro a q1 h
  cases h
  exact mm_go_ret hc rfl
theorem mm_ok_zret {x : Int32} (hc : mm_chk o ini cc pc [(.ireturn, 1)] = true) (hx : x = 0 ∨ x = 1) : mm_ok mm_cvi Cl o ini cc (some .boolean) L pc lo [.int x] q (some (x, q)) := by
  intro a q1 h
  cases h
  exact mm_go_ret hc ⟨hx, rfl⟩
theorem mm_ok_lret {x : Int64} (hc : mm_chk o ini cc pc [(.lreturn, 1)] = true) : mm_ok mm_cvl Cl o ini cc (some .long) L pc lo [.long x] q (some (x, q)) := by
  intro a q1 h
  cases h
  exact mm_go_ret hc rfl
theorem mm_ok_vret (hc : mm_chk o ini cc pc [(.return_, 1)] = true) : mm_ok mm_cvu Cl o ini cc none L pc lo [] q (some ((), q)) := by
  intro a q1 h
  cases h
  exact mm_go_ret hc rfl
theorem mm_me_len : mm_meL.length = 289 := by decide +kernel
theorem mm_runs_of {α : Type} {cv : α → Option Value} {d y nL : Nat} {rt : Option FieldType} {as : List Value} {e : Option (α × mm_Q)} {a : α} {q1 : mm_Q} {nm : MethodName} {rest : Nat × Nat × Nat × Nat × Nat} (hm : mm_me y = (o, nm, cc, nL, rt, rest)) (hi : decide (nm.name = "<init>") = false) (hl : (mm_ini nL as).length = nL) (hy : Nat.blt y 289 = true) (h : mm_ok cv (mm_Runs d) o false cc rt L 0 (mm_ini nL as) [] q e) (he : e = some (a, q1)) : mm_Runs (d + 1) y as (mm_wq L q) (cv a) (mm_wq L q1) := by
  unfold mm_Runs
  rw [hm]
  refine ⟨hl, by rw [mm_me_len]; exact Nat.le_of_ble_eq_true hy, ?_⟩
  dsimp only
  rw [hi]
  exact h a q1 he
end MMP
end
