-- ===== PART A: goes FIRST, ahead of the names: the tables' words, and 'selects' of the private methods out of them =====
/-- a private method of a class that the tables say can be made, by its rows of tables_1 -/
def lw_okq (q : MethodName × Nat) : Prop := (q.1.cls ≠ "java/lang/invoke/MethodHandle" ∧ q.1.cls ≠ "java/lang/invoke/VarHandle") ∧ Cond.instantiable q.1.cls q.2 ∈ tables_1 ∧ Cond.privateMethod q.1 ∈ tables_1 ∧ Cond.instanceMethod q.1 ∈ tables_1
theorem lw_p0 : lw_okq (⟨"PaySteer$Acts", "isRather", "(III[I)Z"⟩, 6) := ⟨⟨by decide +kernel, by decide +kernel⟩, List.mem_of_getElem? (i := 26) (by decide +kernel), List.mem_of_getElem? (i := 375) (by decide +kernel), List.mem_of_getElem? (i := 376) (by decide +kernel)⟩
theorem lw_p1 : lw_okq (⟨"PaySteer", "solvesPay", "(II)Z"⟩, 12) := ⟨⟨by decide +kernel, by decide +kernel⟩, List.mem_of_getElem? (i := 18) (by decide +kernel), List.mem_of_getElem? (i := 395) (by decide +kernel), List.mem_of_getElem? (i := 396) (by decide +kernel)⟩
theorem lw_p2 : lw_okq (⟨"PaySteer$Solver", "addLine", "()V"⟩, 4) := ⟨⟨by decide +kernel, by decide +kernel⟩, List.mem_of_getElem? (i := 57) (by decide +kernel), List.mem_of_getElem? (i := 413) (by decide +kernel), List.mem_of_getElem? (i := 414) (by decide +kernel)⟩
theorem lw_p3 : lw_okq (⟨"PaySteer$Acts", "askPayIn", "(LPaySteer$Solver;II[I)V"⟩, 6) := ⟨⟨by decide +kernel, by decide +kernel⟩, List.mem_of_getElem? (i := 26) (by decide +kernel), List.mem_of_getElem? (i := 422) (by decide +kernel), List.mem_of_getElem? (i := 423) (by decide +kernel)⟩
theorem lw_p4 : lw_okq (⟨"PaySteer$Solver", "firstBroken", "()I"⟩, 4) := ⟨⟨by decide +kernel, by decide +kernel⟩, List.mem_of_getElem? (i := 57) (by decide +kernel), List.mem_of_getElem? (i := 439) (by decide +kernel), List.mem_of_getElem? (i := 440) (by decide +kernel)⟩
theorem lw_p5 : lw_okq (⟨"PaySteer$Solver", "mending", "(I)I"⟩, 4) := ⟨⟨by decide +kernel, by decide +kernel⟩, List.mem_of_getElem? (i := 57) (by decide +kernel), List.mem_of_getElem? (i := 443) (by decide +kernel), List.mem_of_getElem? (i := 444) (by decide +kernel)⟩
theorem lw_p6 : lw_okq (⟨"PaySteer$Solver", "growsLess", "(III)Z"⟩, 4) := ⟨⟨by decide +kernel, by decide +kernel⟩, List.mem_of_getElem? (i := 57) (by decide +kernel), List.mem_of_getElem? (i := 447) (by decide +kernel), List.mem_of_getElem? (i := 448) (by decide +kernel)⟩
theorem lw_p7 : lw_okq (⟨"PaySteer$Solver", "exchange", "(II)V"⟩, 4) := ⟨⟨by decide +kernel, by decide +kernel⟩, List.mem_of_getElem? (i := 57) (by decide +kernel), List.mem_of_getElem? (i := 451) (by decide +kernel), List.mem_of_getElem? (i := 452) (by decide +kernel)⟩
theorem lw_p8 : lw_okq (⟨"PaySteer$Acts", "askSharesAt", "(LPaySteer$Solver;IIII)V"⟩, 6) := ⟨⟨by decide +kernel, by decide +kernel⟩, List.mem_of_getElem? (i := 26) (by decide +kernel), List.mem_of_getElem? (i := 492) (by decide +kernel), List.mem_of_getElem? (i := 493) (by decide +kernel)⟩
theorem lw_p9 : lw_okq (⟨"PaySteer", "keptOfLeast", "(II)J"⟩, 12) := ⟨⟨by decide +kernel, by decide +kernel⟩, List.mem_of_getElem? (i := 18) (by decide +kernel), List.mem_of_getElem? (i := 505) (by decide +kernel), List.mem_of_getElem? (i := 506) (by decide +kernel)⟩
theorem lw_p10 : lw_okq (⟨"PaySteer", "readsJoins", "(I)Z"⟩, 12) := ⟨⟨by decide +kernel, by decide +kernel⟩, List.mem_of_getElem? (i := 18) (by decide +kernel), List.mem_of_getElem? (i := 519) (by decide +kernel), List.mem_of_getElem? (i := 520) (by decide +kernel)⟩
theorem lw_p11 : lw_okq (⟨"PaySteer$Promises", "learn", "()V"⟩, 6) := ⟨⟨by decide +kernel, by decide +kernel⟩, List.mem_of_getElem? (i := 89) (by decide +kernel), List.mem_of_getElem? (i := 592) (by decide +kernel), List.mem_of_getElem? (i := 593) (by decide +kernel)⟩
theorem lw_p12 : lw_okq (⟨"PaySteer$Promises", "learnTerm", "(IJ)V"⟩, 6) := ⟨⟨by decide +kernel, by decide +kernel⟩, List.mem_of_getElem? (i := 89) (by decide +kernel), List.mem_of_getElem? (i := 597) (by decide +kernel), List.mem_of_getElem? (i := 598) (by decide +kernel)⟩
theorem lw_p13 : lw_okq (⟨"PaySteer$Promises", "weigh", "(IJIIII)V"⟩, 6) := ⟨⟨by decide +kernel, by decide +kernel⟩, List.mem_of_getElem? (i := 89) (by decide +kernel), List.mem_of_getElem? (i := 601) (by decide +kernel), List.mem_of_getElem? (i := 602) (by decide +kernel)⟩
theorem lw_p14 : lw_okq (⟨"PaySteer$Promises", "followsOf", "(III)I"⟩, 6) := ⟨⟨by decide +kernel, by decide +kernel⟩, List.mem_of_getElem? (i := 89) (by decide +kernel), List.mem_of_getElem? (i := 605) (by decide +kernel), List.mem_of_getElem? (i := 606) (by decide +kernel)⟩
theorem lw_p15 : lw_okq (⟨"PaySteer$Promises", "isWilling", "(III)Z"⟩, 6) := ⟨⟨by decide +kernel, by decide +kernel⟩, List.mem_of_getElem? (i := 89) (by decide +kernel), List.mem_of_getElem? (i := 610) (by decide +kernel), List.mem_of_getElem? (i := 611) (by decide +kernel)⟩
def lw_privs_1 : List (MethodName × Nat) := [(⟨"PaySteer$Acts", "isRather", "(III[I)Z"⟩, 6), (⟨"PaySteer", "solvesPay", "(II)Z"⟩, 12), (⟨"PaySteer$Solver", "addLine", "()V"⟩, 4), (⟨"PaySteer$Acts", "askPayIn", "(LPaySteer$Solver;II[I)V"⟩, 6), (⟨"PaySteer$Solver", "firstBroken", "()I"⟩, 4), (⟨"PaySteer$Solver", "mending", "(I)I"⟩, 4), (⟨"PaySteer$Solver", "growsLess", "(III)Z"⟩, 4), (⟨"PaySteer$Solver", "exchange", "(II)V"⟩, 4), (⟨"PaySteer$Acts", "askSharesAt", "(LPaySteer$Solver;IIII)V"⟩, 6), (⟨"PaySteer", "keptOfLeast", "(II)J"⟩, 12), (⟨"PaySteer", "readsJoins", "(I)Z"⟩, 12), (⟨"PaySteer$Promises", "learn", "()V"⟩, 6), (⟨"PaySteer$Promises", "learnTerm", "(IJ)V"⟩, 6), (⟨"PaySteer$Promises", "weigh", "(IJIIII)V"⟩, 6), (⟨"PaySteer$Promises", "followsOf", "(III)I"⟩, 6), (⟨"PaySteer$Promises", "isWilling", "(III)Z"⟩, 6)]
theorem lw_r1 : ∀ q ∈ lw_privs_1, lw_okq q := List.forall_mem_cons.mpr ⟨lw_p0, List.forall_mem_cons.mpr ⟨lw_p1, List.forall_mem_cons.mpr ⟨lw_p2, List.forall_mem_cons.mpr ⟨lw_p3, List.forall_mem_cons.mpr ⟨lw_p4, List.forall_mem_cons.mpr ⟨lw_p5, List.forall_mem_cons.mpr ⟨lw_p6, List.forall_mem_cons.mpr ⟨lw_p7, List.forall_mem_cons.mpr ⟨lw_p8, List.forall_mem_cons.mpr ⟨lw_p9, List.forall_mem_cons.mpr ⟨lw_p10, List.forall_mem_cons.mpr ⟨lw_p11, List.forall_mem_cons.mpr ⟨lw_p12, List.forall_mem_cons.mpr ⟨lw_p13, List.forall_mem_cons.mpr ⟨lw_p14, List.forall_mem_cons.mpr ⟨lw_p15, fun _ h => absurd h List.not_mem_nil⟩⟩⟩⟩⟩⟩⟩⟩⟩⟩⟩⟩⟩⟩⟩⟩
theorem lw_p16 : lw_okq (⟨"PaySteer$Team", "allGain", "(II)Z"⟩, 4) := ⟨⟨by decide +kernel, by decide +kernel⟩, List.mem_of_getElem? (i := 116) (by decide +kernel), List.mem_of_getElem? (i := 690) (by decide +kernel), List.mem_of_getElem? (i := 691) (by decide +kernel)⟩
theorem lw_p17 : lw_okq (⟨"PaySteer$Contest", "isCalm", "(II)Z"⟩, 3) := ⟨⟨by decide +kernel, by decide +kernel⟩, List.mem_of_getElem? (i := 135) (by decide +kernel), List.mem_of_getElem? (i := 723) (by decide +kernel), List.mem_of_getElem? (i := 724) (by decide +kernel)⟩
theorem lw_p18 : lw_okq (⟨"PaySteer$Contest", "isContent", "(III)Z"⟩, 3) := ⟨⟨by decide +kernel, by decide +kernel⟩, List.mem_of_getElem? (i := 135) (by decide +kernel), List.mem_of_getElem? (i := 727) (by decide +kernel), List.mem_of_getElem? (i := 728) (by decide +kernel)⟩
theorem lw_p19 : lw_okq (⟨"PaySteer$Contest", "left", "(III)I"⟩, 3) := ⟨⟨by decide +kernel, by decide +kernel⟩, List.mem_of_getElem? (i := 135) (by decide +kernel), List.mem_of_getElem? (i := 731) (by decide +kernel), List.mem_of_getElem? (i := 732) (by decide +kernel)⟩
theorem lw_p20 : lw_okq (⟨"PaySteer$Reader", "sum", "(I)J"⟩, 6) := ⟨⟨by decide +kernel, by decide +kernel⟩, List.mem_of_getElem? (i := 159) (by decide +kernel), List.mem_of_getElem? (i := 775) (by decide +kernel), List.mem_of_getElem? (i := 776) (by decide +kernel)⟩
theorem lw_p21 : lw_okq (⟨"PaySteer$Reader", "product", "(I)J"⟩, 6) := ⟨⟨by decide +kernel, by decide +kernel⟩, List.mem_of_getElem? (i := 159) (by decide +kernel), List.mem_of_getElem? (i := 779) (by decide +kernel), List.mem_of_getElem? (i := 780) (by decide +kernel)⟩
theorem lw_p22 : lw_okq (⟨"PaySteer$Reader", "atom", "(I)J"⟩, 6) := ⟨⟨by decide +kernel, by decide +kernel⟩, List.mem_of_getElem? (i := 159) (by decide +kernel), List.mem_of_getElem? (i := 783) (by decide +kernel), List.mem_of_getElem? (i := 784) (by decide +kernel)⟩
theorem lw_p23 : lw_okq (⟨"PaySteer$Reader", "skips", "(C)Z"⟩, 6) := ⟨⟨by decide +kernel, by decide +kernel⟩, List.mem_of_getElem? (i := 159) (by decide +kernel), List.mem_of_getElem? (i := 787) (by decide +kernel), List.mem_of_getElem? (i := 788) (by decide +kernel)⟩
theorem lw_p24 : lw_okq (⟨"PaySteer$Reader", "next", "()I"⟩, 6) := ⟨⟨by decide +kernel, by decide +kernel⟩, List.mem_of_getElem? (i := 159) (by decide +kernel), List.mem_of_getElem? (i := 791) (by decide +kernel), List.mem_of_getElem? (i := 792) (by decide +kernel)⟩
theorem lw_p25 : lw_okq (⟨"PaySteer$Reader", "lesserOrGreater", "(I)J"⟩, 6) := ⟨⟨by decide +kernel, by decide +kernel⟩, List.mem_of_getElem? (i := 159) (by decide +kernel), List.mem_of_getElem? (i := 795) (by decide +kernel), List.mem_of_getElem? (i := 796) (by decide +kernel)⟩
theorem lw_p26 : lw_okq (⟨"PaySteer$Reader", "needs", "(C)V"⟩, 6) := ⟨⟨by decide +kernel, by decide +kernel⟩, List.mem_of_getElem? (i := 159) (by decide +kernel), List.mem_of_getElem? (i := 799) (by decide +kernel), List.mem_of_getElem? (i := 800) (by decide +kernel)⟩
theorem lw_p27 : lw_okq (⟨"PaySteer$Reader", "fail", "()V"⟩, 6) := ⟨⟨by decide +kernel, by decide +kernel⟩, List.mem_of_getElem? (i := 159) (by decide +kernel), List.mem_of_getElem? (i := 803) (by decide +kernel), List.mem_of_getElem? (i := 804) (by decide +kernel)⟩
theorem lw_p28 : lw_okq (⟨"PaySteer$Reader", "opens", "(I)V"⟩, 6) := ⟨⟨by decide +kernel, by decide +kernel⟩, List.mem_of_getElem? (i := 159) (by decide +kernel), List.mem_of_getElem? (i := 807) (by decide +kernel), List.mem_of_getElem? (i := 808) (by decide +kernel)⟩
theorem lw_p29 : lw_okq (⟨"PaySteer$Reader", "deeper", "(I)J"⟩, 6) := ⟨⟨by decide +kernel, by decide +kernel⟩, List.mem_of_getElem? (i := 159) (by decide +kernel), List.mem_of_getElem? (i := 811) (by decide +kernel), List.mem_of_getElem? (i := 812) (by decide +kernel)⟩
theorem lw_p30 : lw_okq (⟨"PaySteer$Reader", "oneOfTwo", "(I)J"⟩, 6) := ⟨⟨by decide +kernel, by decide +kernel⟩, List.mem_of_getElem? (i := 159) (by decide +kernel), List.mem_of_getElem? (i := 821) (by decide +kernel), List.mem_of_getElem? (i := 822) (by decide +kernel)⟩
theorem lw_p31 : lw_okq (⟨"PaySteer$Reader", "number", "()J"⟩, 6) := ⟨⟨by decide +kernel, by decide +kernel⟩, List.mem_of_getElem? (i := 159) (by decide +kernel), List.mem_of_getElem? (i := 825) (by decide +kernel), List.mem_of_getElem? (i := 826) (by decide +kernel)⟩
def lw_privs_2 : List (MethodName × Nat) := [(⟨"PaySteer$Team", "allGain", "(II)Z"⟩, 4), (⟨"PaySteer$Contest", "isCalm", "(II)Z"⟩, 3), (⟨"PaySteer$Contest", "isContent", "(III)Z"⟩, 3), (⟨"PaySteer$Contest", "left", "(III)I"⟩, 3), (⟨"PaySteer$Reader", "sum", "(I)J"⟩, 6), (⟨"PaySteer$Reader", "product", "(I)J"⟩, 6), (⟨"PaySteer$Reader", "atom", "(I)J"⟩, 6), (⟨"PaySteer$Reader", "skips", "(C)Z"⟩, 6), (⟨"PaySteer$Reader", "next", "()I"⟩, 6), (⟨"PaySteer$Reader", "lesserOrGreater", "(I)J"⟩, 6), (⟨"PaySteer$Reader", "needs", "(C)V"⟩, 6), (⟨"PaySteer$Reader", "fail", "()V"⟩, 6), (⟨"PaySteer$Reader", "opens", "(I)V"⟩, 6), (⟨"PaySteer$Reader", "deeper", "(I)J"⟩, 6), (⟨"PaySteer$Reader", "oneOfTwo", "(I)J"⟩, 6), (⟨"PaySteer$Reader", "number", "()J"⟩, 6)]
theorem lw_r2 : ∀ q ∈ lw_privs_2, lw_okq q := List.forall_mem_cons.mpr ⟨lw_p16, List.forall_mem_cons.mpr ⟨lw_p17, List.forall_mem_cons.mpr ⟨lw_p18, List.forall_mem_cons.mpr ⟨lw_p19, List.forall_mem_cons.mpr ⟨lw_p20, List.forall_mem_cons.mpr ⟨lw_p21, List.forall_mem_cons.mpr ⟨lw_p22, List.forall_mem_cons.mpr ⟨lw_p23, List.forall_mem_cons.mpr ⟨lw_p24, List.forall_mem_cons.mpr ⟨lw_p25, List.forall_mem_cons.mpr ⟨lw_p26, List.forall_mem_cons.mpr ⟨lw_p27, List.forall_mem_cons.mpr ⟨lw_p28, List.forall_mem_cons.mpr ⟨lw_p29, List.forall_mem_cons.mpr ⟨lw_p30, List.forall_mem_cons.mpr ⟨lw_p31, fun _ h => absurd h List.not_mem_nil⟩⟩⟩⟩⟩⟩⟩⟩⟩⟩⟩⟩⟩⟩⟩⟩
theorem lw_p32 : lw_okq (⟨"PaySteer", "writePay", "(I[I)V"⟩, 12) := ⟨⟨by decide +kernel, by decide +kernel⟩, List.mem_of_getElem? (i := 18) (by decide +kernel), List.mem_of_getElem? (i := 866) (by decide +kernel), List.mem_of_getElem? (i := 867) (by decide +kernel)⟩
theorem lw_p33 : lw_okq (⟨"PaySteer$TwoTasks", "bestBeside", "(II)I"⟩, 3) := ⟨⟨by decide +kernel, by decide +kernel⟩, List.mem_of_getElem? (i := 235) (by decide +kernel), List.mem_of_getElem? (i := 982) (by decide +kernel), List.mem_of_getElem? (i := 983) (by decide +kernel)⟩
theorem lw_p34 : lw_okq (⟨"PaySteerModel", "isAct", "(I)Z"⟩, 59) := ⟨⟨by decide +kernel, by decide +kernel⟩, List.mem_of_getElem? (i := 1022) (by decide +kernel), List.mem_of_getElem? (i := 1218) (by decide +kernel), List.mem_of_getElem? (i := 1219) (by decide +kernel)⟩
theorem lw_p35 : lw_okq (⟨"PaySteerModel", "isSight", "(I)Z"⟩, 59) := ⟨⟨by decide +kernel, by decide +kernel⟩, List.mem_of_getElem? (i := 1022) (by decide +kernel), List.mem_of_getElem? (i := 1233) (by decide +kernel), List.mem_of_getElem? (i := 1234) (by decide +kernel)⟩
theorem lw_p36 : lw_okq (⟨"PaySteerModel", "looksAtTold", "()V"⟩, 59) := ⟨⟨by decide +kernel, by decide +kernel⟩, List.mem_of_getElem? (i := 1022) (by decide +kernel), List.mem_of_getElem? (i := 1252) (by decide +kernel), List.mem_of_getElem? (i := 1253) (by decide +kernel)⟩
theorem lw_p37 : lw_okq (⟨"PaySteerModel", "gainOf", "(II)I"⟩, 59) := ⟨⟨by decide +kernel, by decide +kernel⟩, List.mem_of_getElem? (i := 1022) (by decide +kernel), List.mem_of_getElem? (i := 1256) (by decide +kernel), List.mem_of_getElem? (i := 1257) (by decide +kernel)⟩
theorem lw_p38 : lw_okq (⟨"PaySteerModel", "chance", "(III)I"⟩, 59) := ⟨⟨by decide +kernel, by decide +kernel⟩, List.mem_of_getElem? (i := 1022) (by decide +kernel), List.mem_of_getElem? (i := 1260) (by decide +kernel), List.mem_of_getElem? (i := 1261) (by decide +kernel)⟩
theorem lw_p39 : lw_okq (⟨"PaySteerModel", "answerOf", "(I)I"⟩, 59) := ⟨⟨by decide +kernel, by decide +kernel⟩, List.mem_of_getElem? (i := 1022) (by decide +kernel), List.mem_of_getElem? (i := 1268) (by decide +kernel), List.mem_of_getElem? (i := 1269) (by decide +kernel)⟩
theorem lw_p40 : lw_okq (⟨"PaySteerModel", "other", "(II)I"⟩, 59) := ⟨⟨by decide +kernel, by decide +kernel⟩, List.mem_of_getElem? (i := 1022) (by decide +kernel), List.mem_of_getElem? (i := 1272) (by decide +kernel), List.mem_of_getElem? (i := 1273) (by decide +kernel)⟩
theorem lw_p41 : lw_okq (⟨"PaySteerModel", "findLeast", "(II)V"⟩, 59) := ⟨⟨by decide +kernel, by decide +kernel⟩, List.mem_of_getElem? (i := 1022) (by decide +kernel), List.mem_of_getElem? (i := 1281) (by decide +kernel), List.mem_of_getElem? (i := 1282) (by decide +kernel)⟩
theorem lw_p42 : lw_okq (⟨"PaySteerModel", "findBounds", "(II)V"⟩, 59) := ⟨⟨by decide +kernel, by decide +kernel⟩, List.mem_of_getElem? (i := 1022) (by decide +kernel), List.mem_of_getElem? (i := 1285) (by decide +kernel), List.mem_of_getElem? (i := 1286) (by decide +kernel)⟩
theorem lw_p43 : lw_okq (⟨"PaySteerModel", "isCorner", "()Z"⟩, 59) := ⟨⟨by decide +kernel, by decide +kernel⟩, List.mem_of_getElem? (i := 1022) (by decide +kernel), List.mem_of_getElem? (i := 1289) (by decide +kernel), List.mem_of_getElem? (i := 1290) (by decide +kernel)⟩
theorem lw_p44 : lw_okq (⟨"PaySteerModel", "determinant", "(I)J"⟩, 59) := ⟨⟨by decide +kernel, by decide +kernel⟩, List.mem_of_getElem? (i := 1022) (by decide +kernel), List.mem_of_getElem? (i := 1293) (by decide +kernel), List.mem_of_getElem? (i := 1294) (by decide +kernel)⟩
theorem lw_p45 : lw_okq (⟨"PaySteerModel", "isLess", "(J)Z"⟩, 59) := ⟨⟨by decide +kernel, by decide +kernel⟩, List.mem_of_getElem? (i := 1022) (by decide +kernel), List.mem_of_getElem? (i := 1298) (by decide +kernel), List.mem_of_getElem? (i := 1299) (by decide +kernel)⟩
theorem lw_p46 : lw_okq (⟨"PaySteerModel", "findShares", "(II)V"⟩, 59) := ⟨⟨by decide +kernel, by decide +kernel⟩, List.mem_of_getElem? (i := 1022) (by decide +kernel), List.mem_of_getElem? (i := 1317) (by decide +kernel), List.mem_of_getElem? (i := 1318) (by decide +kernel)⟩
theorem lw_p47 : lw_okq (⟨"PaySteerModel", "trySet", "(III)V"⟩, 59) := ⟨⟨by decide +kernel, by decide +kernel⟩, List.mem_of_getElem? (i := 1022) (by decide +kernel), List.mem_of_getElem? (i := 1324) (by decide +kernel), List.mem_of_getElem? (i := 1325) (by decide +kernel)⟩
def lw_privs_3 : List (MethodName × Nat) := [(⟨"PaySteer", "writePay", "(I[I)V"⟩, 12), (⟨"PaySteer$TwoTasks", "bestBeside", "(II)I"⟩, 3), (⟨"PaySteerModel", "isAct", "(I)Z"⟩, 59), (⟨"PaySteerModel", "isSight", "(I)Z"⟩, 59), (⟨"PaySteerModel", "looksAtTold", "()V"⟩, 59), (⟨"PaySteerModel", "gainOf", "(II)I"⟩, 59), (⟨"PaySteerModel", "chance", "(III)I"⟩, 59), (⟨"PaySteerModel", "answerOf", "(I)I"⟩, 59), (⟨"PaySteerModel", "other", "(II)I"⟩, 59), (⟨"PaySteerModel", "findLeast", "(II)V"⟩, 59), (⟨"PaySteerModel", "findBounds", "(II)V"⟩, 59), (⟨"PaySteerModel", "isCorner", "()Z"⟩, 59), (⟨"PaySteerModel", "determinant", "(I)J"⟩, 59), (⟨"PaySteerModel", "isLess", "(J)Z"⟩, 59), (⟨"PaySteerModel", "findShares", "(II)V"⟩, 59), (⟨"PaySteerModel", "trySet", "(III)V"⟩, 59)]
theorem lw_r3 : ∀ q ∈ lw_privs_3, lw_okq q := List.forall_mem_cons.mpr ⟨lw_p32, List.forall_mem_cons.mpr ⟨lw_p33, List.forall_mem_cons.mpr ⟨lw_p34, List.forall_mem_cons.mpr ⟨lw_p35, List.forall_mem_cons.mpr ⟨lw_p36, List.forall_mem_cons.mpr ⟨lw_p37, List.forall_mem_cons.mpr ⟨lw_p38, List.forall_mem_cons.mpr ⟨lw_p39, List.forall_mem_cons.mpr ⟨lw_p40, List.forall_mem_cons.mpr ⟨lw_p41, List.forall_mem_cons.mpr ⟨lw_p42, List.forall_mem_cons.mpr ⟨lw_p43, List.forall_mem_cons.mpr ⟨lw_p44, List.forall_mem_cons.mpr ⟨lw_p45, List.forall_mem_cons.mpr ⟨lw_p46, List.forall_mem_cons.mpr ⟨lw_p47, fun _ h => absurd h List.not_mem_nil⟩⟩⟩⟩⟩⟩⟩⟩⟩⟩⟩⟩⟩⟩⟩⟩
theorem lw_p48 : lw_okq (⟨"PaySteerModel", "made", "(IIII)J"⟩, 59) := ⟨⟨by decide +kernel, by decide +kernel⟩, List.mem_of_getElem? (i := 1022) (by decide +kernel), List.mem_of_getElem? (i := 1328) (by decide +kernel), List.mem_of_getElem? (i := 1329) (by decide +kernel)⟩
theorem lw_p49 : lw_okq (⟨"PaySteerModel", "entry", "(IIIII)J"⟩, 59) := ⟨⟨by decide +kernel, by decide +kernel⟩, List.mem_of_getElem? (i := 1022) (by decide +kernel), List.mem_of_getElem? (i := 1332) (by decide +kernel), List.mem_of_getElem? (i := 1333) (by decide +kernel)⟩
theorem lw_p50 : lw_okq (⟨"PaySteerModel", "bestOf", "(I)I"⟩, 59) := ⟨⟨by decide +kernel, by decide +kernel⟩, List.mem_of_getElem? (i := 1022) (by decide +kernel), List.mem_of_getElem? (i := 1340) (by decide +kernel), List.mem_of_getElem? (i := 1341) (by decide +kernel)⟩
theorem lw_p51 : lw_okq (⟨"PaySteerModel", "findSums", "(I)V"⟩, 59) := ⟨⟨by decide +kernel, by decide +kernel⟩, List.mem_of_getElem? (i := 1022) (by decide +kernel), List.mem_of_getElem? (i := 1381) (by decide +kernel), List.mem_of_getElem? (i := 1382) (by decide +kernel)⟩
theorem lw_p52 : lw_okq (⟨"PaySteerModel", "findTerm", "(IIJ)V"⟩, 59) := ⟨⟨by decide +kernel, by decide +kernel⟩, List.mem_of_getElem? (i := 1022) (by decide +kernel), List.mem_of_getElem? (i := 1385) (by decide +kernel), List.mem_of_getElem? (i := 1386) (by decide +kernel)⟩
theorem lw_p53 : lw_okq (⟨"PaySteerModel", "hasOf", "(IIII)I"⟩, 59) := ⟨⟨by decide +kernel, by decide +kernel⟩, List.mem_of_getElem? (i := 1022) (by decide +kernel), List.mem_of_getElem? (i := 1389) (by decide +kernel), List.mem_of_getElem? (i := 1390) (by decide +kernel)⟩
theorem lw_p54 : lw_okq (⟨"PaySteerModel", "isSet", "(I)Z"⟩, 59) := ⟨⟨by decide +kernel, by decide +kernel⟩, List.mem_of_getElem? (i := 1022) (by decide +kernel), List.mem_of_getElem? (i := 1418) (by decide +kernel), List.mem_of_getElem? (i := 1419) (by decide +kernel)⟩
theorem lw_p55 : lw_okq (⟨"PaySteerModel", "memberHas", "(II)I"⟩, 59) := ⟨⟨by decide +kernel, by decide +kernel⟩, List.mem_of_getElem? (i := 1022) (by decide +kernel), List.mem_of_getElem? (i := 1422) (by decide +kernel), List.mem_of_getElem? (i := 1423) (by decide +kernel)⟩
theorem lw_p56 : lw_okq (⟨"PaySteerModel", "firstBreak", "(IZ)I"⟩, 59) := ⟨⟨by decide +kernel, by decide +kernel⟩, List.mem_of_getElem? (i := 1022) (by decide +kernel), List.mem_of_getElem? (i := 1430) (by decide +kernel), List.mem_of_getElem? (i := 1431) (by decide +kernel)⟩
theorem lw_p57 : lw_okq (⟨"PaySteerModel", "isBroken", "(II)Z"⟩, 59) := ⟨⟨by decide +kernel, by decide +kernel⟩, List.mem_of_getElem? (i := 1022) (by decide +kernel), List.mem_of_getElem? (i := 1434) (by decide +kernel), List.mem_of_getElem? (i := 1435) (by decide +kernel)⟩
theorem lw_p58 : lw_okq (⟨"PaySteerModel", "calmAt", "(I)I"⟩, 59) := ⟨⟨by decide +kernel, by decide +kernel⟩, List.mem_of_getElem? (i := 1022) (by decide +kernel), List.mem_of_getElem? (i := 1455) (by decide +kernel), List.mem_of_getElem? (i := 1456) (by decide +kernel)⟩
theorem lw_p59 : lw_okq (⟨"PaySteerModel", "isBest", "(III)Z"⟩, 59) := ⟨⟨by decide +kernel, by decide +kernel⟩, List.mem_of_getElem? (i := 1022) (by decide +kernel), List.mem_of_getElem? (i := 1459) (by decide +kernel), List.mem_of_getElem? (i := 1460) (by decide +kernel)⟩
theorem lw_p60 : lw_okq (⟨"PaySteerModel", "contestHas", "(III)I"⟩, 59) := ⟨⟨by decide +kernel, by decide +kernel⟩, List.mem_of_getElem? (i := 1022) (by decide +kernel), List.mem_of_getElem? (i := 1463) (by decide +kernel), List.mem_of_getElem? (i := 1464) (by decide +kernel)⟩
theorem lw_p61 : lw_okq (⟨"PaySteerModel", "reads", "()I"⟩, 59) := ⟨⟨by decide +kernel, by decide +kernel⟩, List.mem_of_getElem? (i := 1022) (by decide +kernel), List.mem_of_getElem? (i := 1481) (by decide +kernel), List.mem_of_getElem? (i := 1482) (by decide +kernel)⟩
theorem lw_p62 : lw_okq (⟨"PaySteerModel", "operand", "(I)I"⟩, 59) := ⟨⟨by decide +kernel, by decide +kernel⟩, List.mem_of_getElem? (i := 1022) (by decide +kernel), List.mem_of_getElem? (i := 1485) (by decide +kernel), List.mem_of_getElem? (i := 1486) (by decide +kernel)⟩
theorem lw_p63 : lw_okq (⟨"PaySteerModel", "byteAt", "(I)I"⟩, 59) := ⟨⟨by decide +kernel, by decide +kernel⟩, List.mem_of_getElem? (i := 1022) (by decide +kernel), List.mem_of_getElem? (i := 1489) (by decide +kernel), List.mem_of_getElem? (i := 1490) (by decide +kernel)⟩
def lw_privs_4 : List (MethodName × Nat) := [(⟨"PaySteerModel", "made", "(IIII)J"⟩, 59), (⟨"PaySteerModel", "entry", "(IIIII)J"⟩, 59), (⟨"PaySteerModel", "bestOf", "(I)I"⟩, 59), (⟨"PaySteerModel", "findSums", "(I)V"⟩, 59), (⟨"PaySteerModel", "findTerm", "(IIJ)V"⟩, 59), (⟨"PaySteerModel", "hasOf", "(IIII)I"⟩, 59), (⟨"PaySteerModel", "isSet", "(I)Z"⟩, 59), (⟨"PaySteerModel", "memberHas", "(II)I"⟩, 59), (⟨"PaySteerModel", "firstBreak", "(IZ)I"⟩, 59), (⟨"PaySteerModel", "isBroken", "(II)Z"⟩, 59), (⟨"PaySteerModel", "calmAt", "(I)I"⟩, 59), (⟨"PaySteerModel", "isBest", "(III)Z"⟩, 59), (⟨"PaySteerModel", "contestHas", "(III)I"⟩, 59), (⟨"PaySteerModel", "reads", "()I"⟩, 59), (⟨"PaySteerModel", "operand", "(I)I"⟩, 59), (⟨"PaySteerModel", "byteAt", "(I)I"⟩, 59)]
theorem lw_r4 : ∀ q ∈ lw_privs_4, lw_okq q := List.forall_mem_cons.mpr ⟨lw_p48, List.forall_mem_cons.mpr ⟨lw_p49, List.forall_mem_cons.mpr ⟨lw_p50, List.forall_mem_cons.mpr ⟨lw_p51, List.forall_mem_cons.mpr ⟨lw_p52, List.forall_mem_cons.mpr ⟨lw_p53, List.forall_mem_cons.mpr ⟨lw_p54, List.forall_mem_cons.mpr ⟨lw_p55, List.forall_mem_cons.mpr ⟨lw_p56, List.forall_mem_cons.mpr ⟨lw_p57, List.forall_mem_cons.mpr ⟨lw_p58, List.forall_mem_cons.mpr ⟨lw_p59, List.forall_mem_cons.mpr ⟨lw_p60, List.forall_mem_cons.mpr ⟨lw_p61, List.forall_mem_cons.mpr ⟨lw_p62, List.forall_mem_cons.mpr ⟨lw_p63, fun _ h => absurd h List.not_mem_nil⟩⟩⟩⟩⟩⟩⟩⟩⟩⟩⟩⟩⟩⟩⟩⟩
theorem lw_p64 : lw_okq (⟨"PaySteerModel", "puts", "(I)V"⟩, 59) := ⟨⟨by decide +kernel, by decide +kernel⟩, List.mem_of_getElem? (i := 1022) (by decide +kernel), List.mem_of_getElem? (i := 1495) (by decide +kernel), List.mem_of_getElem? (i := 1496) (by decide +kernel)⟩
theorem lw_p65 : lw_okq (⟨"PaySteerModel", "opensAt", "(II)I"⟩, 59) := ⟨⟨by decide +kernel, by decide +kernel⟩, List.mem_of_getElem? (i := 1022) (by decide +kernel), List.mem_of_getElem? (i := 1499) (by decide +kernel), List.mem_of_getElem? (i := 1500) (by decide +kernel)⟩
theorem lw_p66 : lw_okq (⟨"PaySteerModel", "opensWord", "(I)I"⟩, 59) := ⟨⟨by decide +kernel, by decide +kernel⟩, List.mem_of_getElem? (i := 1022) (by decide +kernel), List.mem_of_getElem? (i := 1503) (by decide +kernel), List.mem_of_getElem? (i := 1504) (by decide +kernel)⟩
theorem lw_p67 : lw_okq (⟨"PaySteerModel", "behind", "(I)I"⟩, 59) := ⟨⟨by decide +kernel, by decide +kernel⟩, List.mem_of_getElem? (i := 1022) (by decide +kernel), List.mem_of_getElem? (i := 1507) (by decide +kernel), List.mem_of_getElem? (i := 1508) (by decide +kernel)⟩
theorem lw_p68 : lw_okq (⟨"PaySteerModel", "unwinds", "(I)V"⟩, 59) := ⟨⟨by decide +kernel, by decide +kernel⟩, List.mem_of_getElem? (i := 1022) (by decide +kernel), List.mem_of_getElem? (i := 1514) (by decide +kernel), List.mem_of_getElem? (i := 1515) (by decide +kernel)⟩
theorem lw_p69 : lw_okq (⟨"PaySteerModel", "isContract", "(I)Z"⟩, 59) := ⟨⟨by decide +kernel, by decide +kernel⟩, List.mem_of_getElem? (i := 1022) (by decide +kernel), List.mem_of_getElem? (i := 1522) (by decide +kernel), List.mem_of_getElem? (i := 1523) (by decide +kernel)⟩
theorem lw_p70 : lw_okq (⟨"PaySteerModel", "worthOf", "(II)I"⟩, 59) := ⟨⟨by decide +kernel, by decide +kernel⟩, List.mem_of_getElem? (i := 1022) (by decide +kernel), List.mem_of_getElem? (i := 1526) (by decide +kernel), List.mem_of_getElem? (i := 1527) (by decide +kernel)⟩
theorem lw_p71 : lw_okq (⟨"PaySteerModel", "likelyOf", "(III)J"⟩, 59) := ⟨⟨by decide +kernel, by decide +kernel⟩, List.mem_of_getElem? (i := 1022) (by decide +kernel), List.mem_of_getElem? (i := 1570) (by decide +kernel), List.mem_of_getElem? (i := 1571) (by decide +kernel)⟩
theorem lw_p72 : lw_okq (⟨"PaySteerModel", "doesOf", "(II)I"⟩, 59) := ⟨⟨by decide +kernel, by decide +kernel⟩, List.mem_of_getElem? (i := 1022) (by decide +kernel), List.mem_of_getElem? (i := 1587) (by decide +kernel), List.mem_of_getElem? (i := 1588) (by decide +kernel)⟩
def lw_privs_5 : List (MethodName × Nat) := [(⟨"PaySteerModel", "puts", "(I)V"⟩, 59), (⟨"PaySteerModel", "opensAt", "(II)I"⟩, 59), (⟨"PaySteerModel", "opensWord", "(I)I"⟩, 59), (⟨"PaySteerModel", "behind", "(I)I"⟩, 59), (⟨"PaySteerModel", "unwinds", "(I)V"⟩, 59), (⟨"PaySteerModel", "isContract", "(I)Z"⟩, 59), (⟨"PaySteerModel", "worthOf", "(II)I"⟩, 59), (⟨"PaySteerModel", "likelyOf", "(III)J"⟩, 59), (⟨"PaySteerModel", "doesOf", "(II)I"⟩, 59)]
theorem lw_r5 : ∀ q ∈ lw_privs_5, lw_okq q := List.forall_mem_cons.mpr ⟨lw_p64, List.forall_mem_cons.mpr ⟨lw_p65, List.forall_mem_cons.mpr ⟨lw_p66, List.forall_mem_cons.mpr ⟨lw_p67, List.forall_mem_cons.mpr ⟨lw_p68, List.forall_mem_cons.mpr ⟨lw_p69, List.forall_mem_cons.mpr ⟨lw_p70, List.forall_mem_cons.mpr ⟨lw_p71, List.forall_mem_cons.mpr ⟨lw_p72, fun _ h => absurd h List.not_mem_nil⟩⟩⟩⟩⟩⟩⟩⟩⟩
def lw_privs : List (MethodName × Nat) := lw_privs_1 ++ (lw_privs_2 ++ (lw_privs_3 ++ (lw_privs_4 ++ (lw_privs_5))))
def lw_tbl : List Cond := k2_sels lw_privs ++ tables_1
theorem lw_privs_ok : ∀ q ∈ lw_privs, lw_okq q := by
  show ∀ q ∈ lw_privs_1 ++ (lw_privs_2 ++ (lw_privs_3 ++ (lw_privs_4 ++ (lw_privs_5)))), lw_okq q
  exact List.forall_mem_append.mpr ⟨lw_r1, List.forall_mem_append.mpr ⟨lw_r2, List.forall_mem_append.mpr ⟨lw_r3, List.forall_mem_append.mpr ⟨lw_r4, lw_r5⟩⟩⟩⟩
/-! ===== END ===== -/

/-! ===== BEGIN new T[n][m]: the outer array a place, the inner ones among the pooled ===== -/
/-- f, but v at every address of l -/
def vr_up {α : Type} (f : Nat → α) (l : List Nat) (v : α) : Nat → α := fun a => if a ∈ l then v else f a
theorem vr_up_in {α : Type} {f : Nat → α} {l : List Nat} {v : α} {a : Nat} (h : a ∈ l) : vr_up f l v a = v := if_pos h
theorem vr_up_ne {α : Type} {f : Nat → α} {l : List Nat} {v : α} {a : Nat} (h : a ∉ l) : vr_up f l v a = f a := if_neg h
theorem vr_rows {L l : List Nat} {f : Nat → va_E} {e : va_E} (h : ∀ a, a ∈ l → a ∉ L) : va_pl L f ++ l.map (fun a => (a, e)) = va_pl (L ++ l) (vr_up f l e) := by
  unfold va_pl
  rw [List.map_append]
  congr 1
  · apply List.map_congr_left
    intro a ha
    rw [vr_up_ne (fun q => h a q ha)]
  · apply List.map_congr_left
    intro a ha
    rw [vr_up_in ha]
theorem vr_lay {X rows : va_W} {x : Nat × va_E} {pl : va_W} {D : va_G} {cl : List vw_C} {H : Heap} (hP : va_P D cl (((X ++ pl) ++ [x]) ++ rows) H) : va_P D cl ((X ++ [x]) ++ (pl ++ rows)) H := by
  rw [List.append_assoc (X ++ pl)] at hP
  have h := va_P.swap hP
  rw [← List.append_assoc X] at h
  have h2 := va_P.swap h
  rw [List.append_assoc (X ++ [x])] at h2
  exact h2
theorem vr_layD {X rows : va_W} {x : Nat × va_E} {pl : va_W} {A : Nat → Prop} (hD : va_D A (((X ++ pl) ++ [x]) ++ rows)) : va_D A ((X ++ [x]) ++ (pl ++ rows)) := by
  rw [List.append_assoc (X ++ pl)] at hD
  have h := va_D.swap hD
  rw [← List.append_assoc X] at h
  have h2 := va_D.swap h
  rw [List.append_assoc (X ++ [x])] at h2
  exact h2
theorem vr_outer (c : ClassId) (N h0 : Nat) : ∀ i : Nat, Jvm.Free.Multi.outerC c N h0 i = arrV c N (fun j => va_rf (if j < i then some (h0 + 1 + j) else none))
  | 0 => by
    show ({ cls := c, slots := Array.replicate N .null, vm := .none } : Cell) = _
    rw [arrV_new]
    refine congrArg (arrV c N) (funext fun j => ?_)
    simp [va_rf]
  | i + 1 => by
    show (Jvm.Free.Multi.outerC c N h0 i).setSlot i (.ref (h0 + 1 + i)) = _
    rw [vr_outer c N h0 i, arrV_store]
    refine congrArg (arrV c N) (funext fun j => ?_)
    by_cases e : j = i
    · subst e
      simp [updV, va_rf]
    · by_cases h : j < i
      · simp [updV, e, h, Nat.lt_succ_of_lt h]
      · simp [updV, e, h, show ¬ j < i + 1 by omega]
def vm_AOA (t : FieldType) (U : State) : Prop := (Cond.arrayOver (.array t)).before #[] U = true
theorem vm_AOA.use {t : FieldType} {A : Array Value} {U : State} (h : vm_AOA t U) : (Cond.arrayOver (.array t)).before A U = true := h
section VGM
variable {p : Program} {l : Launch} {e : Env} {R : Room} {s : State} {m : MethodId} {args : Array Value} {below : List Frame} {meth : Method} {c : Code} {H : Heap} {locs : List Loc} {cells slots : Nat} {Q : State → Prop}
variable {cc : ByteArray} {pc : Nat} {ls : Array Slot} {rest : List Value} {D : va_G} {cl : List vw_C} {A : Nat → Prop} {a : Nat} {tys : List (ClassId × FieldType)} {ws : va_W} {H0 : Heap}
theorem va_mna {X : va_W} {L : List Nat} {f : Nat → va_E} {cc : ByteArray} (hexec : p.tables.exec = Jvm.exec) (hb : c.code = cc) {own : String} {index : Nat} {ty : FieldType} {cy : ClassId} (hown : s.vm.findClass own = some m.cls) (hclink : (Cond.classLink own index ("[" ++ (FieldType.array ty).toString)).before args s = true) (hover : vm_AOA ty s) (harr : (Cond.arrayClass ty).before args s = true) (hcy : s.vm.findClass (FieldType.array ty).toString = some cy)
    (hK : va_K D cl tys s) (hP : va_P D cl (X ++ va_pl L f) H) (hD : va_D A (X ++ va_pl L f)) (hS : va_S A H0 H locs) (hA : ∀ q, H0.size ≤ q → A q) {n k : Int32} {N' K' : Nat} {z : vp_A} (hn : ¬ n < 0) (hk : ¬ k < 0) (hN : n.toNatClampNeg = N') (hM : k.toNatClampNeg = K')
    (hb1 : N' * 4 ≤ 536870912) (hb2 : K' * componentBytes ty ≤ 536870912) (hb3 : K' ≤ 536870912) (hdf : fits ty (defaultValue ty) = true) (hdd : (defaultValue ty).isDefault = true) (hcells : cells + (1 + N') ≤ R.cells) (hslots : slots + (N' + N' * K') ≤ R.slots) (hz : ∀ c : ClassId, Jvm.Free.Multi.innerC c K' (defaultValue ty) = vp_cell c z) (hdg : decode cc pc = .ok (.multianewarray index 2, 4))
    (kk : ∀ (q : Nat) (r : Nat → Nat) (cA : ClassId) (H1 : Heap), (∀ i j : Nat, i < N' → j < N' → r i = r j → i = j) → (∀ i : Nat, i < N' → r i ∉ L) → va_K D cl (tys ++ [(cA, .array ty)]) s →
      va_P D cl ((X ++ [(q, .inl (cA, N', .inr (.inr (.inr (.inr (fun i => if i < N' then some (r i) else none))))))]) ++ va_pl (L ++ (List.range N').map r) (vr_up f ((List.range N').map r) (.inl (cy, z)))) H1 → va_D A ((X ++ [(q, .inl (cA, N', .inr (.inr (.inr (.inr (fun i => if i < N' then some (r i) else none))))))]) ++ va_pl (L ++ (List.range N').map r) (vr_up f ((List.range N').map r) (.inl (cy, z)))) → va_S A H0 H1 locs →
      W p l e R s m args below meth c H1 locs (cells + 1 + N') (slots + N' + N' * K') Q (F0 m (pc + 4) ls (.ref q :: rest))) : W p l e R s m args below meth c H locs cells slots Q (F0 m pc ls (.int k :: .int n :: rest)) := by
  subst hN
  subst hM
  intro T hT Xs
  obtain ⟨vm₁, cA, comp, -, fA, fC, hO, -, X', step⟩ := Xs.multianewarray2F hexec hown hclink (vm_AOA.use hover) harr (g := F0 m pc ls (.int k :: .int n :: rest)) rfl (by rw [hb]; exact hdg) rfl hn hk hb1 hb2 hb3 hdf hdd hcells hslots
  have ec : some cy = some comp := hcy.symm.trans fC
  cases ec
  generalize hF : Jvm.Free.Multi.fill (T.setVm vm₁) cA cy n.toNatClampNeg k.toNatClampNeg (defaultValue ty) n.toNatClampNeg = F at X' step
  have hTh : (T.setVm vm₁).heap = H := hT
  obtain ⟨f1, f2, -, -⟩ := Jvm.Free.Multi.fill_facts (T.setVm vm₁) cA cy n.toNatClampNeg k.toNatClampNeg (defaultValue ty) n.toNatClampNeg
  rw [hF, hTh] at f1 f2
  have hold : ∀ x : Nat, x < H.size → F.heap[x]? = H[x]? := fun x hx => by
    have := Jvm.Free.Multi.fill_old (T.setVm vm₁) cA cy n.toNatClampNeg k.toNatClampNeg (defaultValue ty) (a := x) (by rw [hTh]; exact hx) n.toNatClampNeg
    rw [hF, hTh] at this
    exact this
  have hrow : ∀ j : Nat, j < n.toNatClampNeg → F.heap[H.size + 1 + j]? = some (vp_cell cy z) := fun j hj => by
    have := Jvm.Free.Multi.fill_inner (T.setVm vm₁) cA cy n.toNatClampNeg k.toNatClampNeg (defaultValue ty) n.toNatClampNeg j hj
    rw [hF, hTh, hz] at this
    exact this
  have hout : Jvm.Free.Multi.outerC cA n.toNatClampNeg H.size n.toNatClampNeg = vp_cell cA (n.toNatClampNeg, .inr (.inr (.inr (.inr (fun i => if i < n.toNatClampNeg then some (H.size + 1 + i) else none))))) := by
    rw [vp_cell_q]
    exact vr_outer cA n.toNatClampNeg H.size n.toNatClampNeg
  rw [hout] at f2
  have hlt : ∀ a, a ∈ L → a < H.size := fun a ha => by
    obtain ⟨k9, hk9⟩ := va_pl_get (X := X) (f := f) ha
    exact (hP k9 _ hk9).lt
  have hnl : ∀ i : Nat, i < n.toNatClampNeg → H.size + 1 + i ∉ L := fun i _ h => by
    have := hlt _ h
    omega
  have hnm : ∀ a, a ∈ (List.range n.toNatClampNeg).map (fun i => H.size + 1 + i) → a ∉ L := fun a ha h => by
    obtain ⟨i, -, rfl⟩ := List.mem_map.mp ha
    have := hlt _ h
    omega
  have hP0 : va_P D cl (X ++ va_pl L f) F.heap := hP.kept (fun k9 x hx => hold x.1 ((hP k9 x hx).lt))
  have hP1 : va_P D cl ((X ++ va_pl L f) ++ [(H.size, .inl (cA, n.toNatClampNeg, .inr (.inr (.inr (.inr (fun i => if i < n.toNatClampNeg then some (H.size + 1 + i) else none))))))]) F.heap := hP0.app (fun k9 x hx => by
    have h0 : k9 < 1 := (List.getElem?_eq_some_iff.mp hx).1
    rw [show k9 = 0 by omega] at hx
    cases hx
    exact f2)
  have hP2 : va_P D cl (((X ++ va_pl L f) ++ [(H.size, .inl (cA, n.toNatClampNeg, .inr (.inr (.inr (.inr (fun i => if i < n.toNatClampNeg then some (H.size + 1 + i) else none))))))]) ++ ((List.range n.toNatClampNeg).map (fun i => H.size + 1 + i)).map (fun a => (a, .inl (cy, z)))) F.heap := hP1.app (fun k9 x hx => by
    obtain ⟨a, ha, rfl⟩ := List.mem_map.mp (List.mem_of_getElem? hx)
    obtain ⟨i, hi, rfl⟩ := List.mem_map.mp ha
    exact hrow i (List.mem_range.mp hi))
  have hD2 : va_D A (((X ++ va_pl L f) ++ [(H.size, .inl (cA, n.toNatClampNeg, .inr (.inr (.inr (.inr (fun i => if i < n.toNatClampNeg then some (H.size + 1 + i) else none))))))]) ++ ((List.range n.toNatClampNeg).map (fun i => H.size + 1 + i)).map (fun a => (a, .inl (cy, z)))) := by
    have hD1 := hD.push (e := .inl (cA, n.toNatClampNeg, .inr (.inr (.inr (.inr (fun i => if i < n.toNatClampNeg then some (H.size + 1 + i) else none)))))) hP rfl (hA _ hS.1)
    generalize hW1 : (X ++ va_pl L f) ++ [(H.size, .inl (cA, n.toNatClampNeg, .inr (.inr (.inr (.inr (fun i => if i < n.toNatClampNeg then some (H.size + 1 + i) else none))))))] = W1 at hD1 hP1 ⊢
    have hle : ∀ (k9 : Nat) (x : Nat × va_E), W1[k9]? = some x → x.1 ≤ H.size := fun k9 x hx => by
      rw [← hW1] at hx
      by_cases hl : k9 < (X ++ va_pl L f).length
      · rw [List.getElem?_append_left hl] at hx
        exact Nat.le_of_lt ((hP k9 x hx).lt)
      · rw [List.getElem?_append_right (by omega)] at hx
        have h0 : k9 - (X ++ va_pl L f).length < 1 := (List.getElem?_eq_some_iff.mp hx).1
        rw [show k9 - (X ++ va_pl L f).length = 0 by omega] at hx
        cases hx
        exact Nat.le_refl _
    have hr : ∀ (k9 : Nat) (x : Nat × va_E), (((List.range n.toNatClampNeg).map (fun i => H.size + 1 + i)).map (fun a => ((a, .inl (cy, z)) : Nat × va_E)))[k9]? = some x → x.1 = H.size + 1 + k9 := fun k9 x hx => by
      rw [List.getElem?_map, List.getElem?_map] at hx
      by_cases h9 : k9 < n.toNatClampNeg
      · rw [List.getElem?_range h9] at hx
        cases hx
        rfl
      · have hn0 : (List.range n.toNatClampNeg)[k9]? = none := List.getElem?_eq_none (by rw [List.length_range]; omega)
        rw [hn0] at hx
        cases hx
    refine ⟨fun i j x y hi hj hxy => ?_, fun k9 x hx => ?_⟩
    · by_cases h1 : i < W1.length <;> by_cases h2 : j < W1.length
      · rw [List.getElem?_append_left h1] at hi
        rw [List.getElem?_append_left h2] at hj
        exact hD1.1 i j x y hi hj hxy
      · rw [List.getElem?_append_left h1] at hi
        rw [List.getElem?_append_right (by omega)] at hj
        have := hle _ _ hi
        have := hr _ _ hj
        omega
      · rw [List.getElem?_append_right (by omega)] at hi
        rw [List.getElem?_append_left h2] at hj
        have := hle _ _ hj
        have := hr _ _ hi
        omega
      · rw [List.getElem?_append_right (by omega)] at hi hj
        have := hr _ _ hi
        have := hr _ _ hj
        omega
    · by_cases h1 : k9 < W1.length
      · rw [List.getElem?_append_left h1] at hx
        exact hD1.2 k9 x hx
      · rw [List.getElem?_append_right (by omega)] at hx
        have := hr _ _ hx
        exact hA _ (by have := hS.1; omega)
  have hAr : ArrOfT s cA (.array ty) := fun N9 z9 => by
    obtain ⟨-, k9, hk9, cm9, hkk9⟩ := (hO 0 0 0).1
    exact ⟨(fun q hq => by cases hq), k9, hk9, cm9, hkk9⟩
  have hK2 : va_K D cl (tys ++ [(cA, .array ty)]) s := ⟨hK.1, fun k9 x hx => by
    by_cases hl : k9 < tys.length
    · rw [List.getElem?_append_left hl] at hx
      exact hK.2 k9 x hx
    · rw [List.getElem?_append_right (by omega)] at hx
      have h0 : k9 - tys.length < 1 := (List.getElem?_eq_some_iff.mp hx).1
      rw [show k9 - tys.length = 0 by omega] at hx
      cases hx
      exact ⟨hAr, fA⟩⟩
  obtain ⟨t, a1, b1⟩ := kk H.size (fun i => H.size + 1 + i) cA F.heap (fun i j _ _ h => by have h9 : H.size + 1 + i = H.size + 1 + j := h; omega) hnl hK2 (by rw [← vr_rows hnm]; exact vr_lay hP2) (by rw [← vr_rows hnm]; exact vr_layD hD2) ⟨by rw [f1]; have := hS.1; omega, fun x h1 h2 => (hold x (Nat.lt_of_lt_of_le h1 hS.1)).trans (hS.2.1 x h1 h2), hS.2.2⟩ F rfl X'
  refine ⟨t, step t ?_, b1⟩
  have e : T.heap.size = H.size := by rw [hT]
  rw [e]
  exact a1
end VGM
/-! ===== END ===== -/

def RX0 : String := "PaySteer$Acts"
def TX0 : u_T := fun k => match k with
  | 0 => ("PaySteer$Acts", "sights", "I", true)
  | 1 => ("PaySteer$Acts", "costs", "[I", true)
  | 2 => ("PaySteer$Acts", "chances", "[[I", true)
  | 3 => ("PaySteer$Acts", "values", "[I", true)
  | 4 => ("PaySteer$Acts", "many", "I", false)
  | _ => ("PaySteer$Acts", "reserve", "I", false)
def tyX0 : Nat → FieldType := fun k => match k with
  | 0 => .int
  | 1 => .array .int
  | 2 => .array (.array .int)
  | 3 => .array .int
  | 4 => .int
  | _ => .int
abbrev wsX00 : List Cond := u_ws RX0 TX0 6
theorem nmX0 : ∀ a, a < 6 → ∀ b, b < 6 → a ≠ b → (TX0 a).2.1 ≠ (TX0 b).2.1 := by decide +kernel
theorem tyX0_ok : ∀ k, k < 6 → parseFieldDescriptor (TX0 k).2.2.1 = some (tyX0 k) := by decide +kernel
abbrev cX0_init : ByteArray := prog_2_method_1_code
def yX0_init : MethodName := ⟨RX0, "<init>", "(I)V"⟩
abbrev cX0_howMany : ByteArray := prog_2_method_2_code
def yX0_howMany : MethodName := ⟨RX0, "howMany", "()I"⟩
abbrev cX0_howManySights : ByteArray := prog_2_method_3_code
def yX0_howManySights : MethodName := ⟨RX0, "howManySights", "()I"⟩
abbrev cX0_reserved : ByteArray := prog_2_method_4_code
def yX0_reserved : MethodName := ⟨RX0, "reserved", "()I"⟩
abbrev cX0_isFull : ByteArray := prog_2_method_5_code
def yX0_isFull : MethodName := ⟨RX0, "isFull", "()Z"⟩
abbrev cX0_isAct : ByteArray := prog_2_method_6_code
def yX0_isAct : MethodName := ⟨RX0, "isAct", "(I)Z"⟩
abbrev cX0_isSight : ByteArray := prog_2_method_7_code
def yX0_isSight : MethodName := ⟨RX0, "isSight", "(I)Z"⟩
abbrev cX0_add : ByteArray := prog_2_method_8_code
def yX0_add : MethodName := ⟨RX0, "add", "(I)I"⟩
abbrev cX0_setCost : ByteArray := prog_2_method_9_code
def yX0_setCost : MethodName := ⟨RX0, "setCost", "(II)I"⟩
abbrev cX0_setChances : ByteArray := prog_2_method_10_code
def yX0_setChances : MethodName := ⟨RX0, "setChances", "(III)Z"⟩
abbrev cX0_setValue : ByteArray := prog_2_method_11_code
def yX0_setValue : MethodName := ⟨RX0, "setValue", "(II)I"⟩
abbrev cX0_setReserve : ByteArray := prog_2_method_12_code
def yX0_setReserve : MethodName := ⟨RX0, "setReserve", "(I)I"⟩
abbrev cX0_valueAt : ByteArray := prog_2_method_13_code
def yX0_valueAt : MethodName := ⟨RX0, "valueAt", "(I)I"⟩
abbrev cX0_chanceAt : ByteArray := prog_2_method_14_code
def yX0_chanceAt : MethodName := ⟨RX0, "chanceAt", "(III)I"⟩
abbrev cX0_paid : ByteArray := prog_2_method_15_code
def yX0_paid : MethodName := ⟨RX0, "paid", "(II[I)J"⟩
abbrev cX0_valued : ByteArray := prog_2_method_16_code
def yX0_valued : MethodName := ⟨RX0, "valued", "(II)J"⟩
abbrev cX0_left : ByteArray := prog_2_method_17_code
def yX0_left : MethodName := ⟨RX0, "left", "(II[I)J"⟩
abbrev cX0_kept : ByteArray := prog_2_method_18_code
def yX0_kept : MethodName := ⟨RX0, "kept", "(II[I)J"⟩
abbrev cX0_stays : ByteArray := prog_2_method_19_code
def yX0_stays : MethodName := ⟨RX0, "stays", "(II[I)Z"⟩
abbrev cX0_answered : ByteArray := prog_2_method_20_code
def yX0_answered : MethodName := ⟨RX0, "answered", "(I[I)I"⟩
abbrev cX0_isRather : ByteArray := prog_2_method_21_code
def yX0_isRather : MethodName := ⟨RX0, "isRather", "(III[I)Z"⟩
abbrev cX0_sightAt : ByteArray := prog_2_method_22_code
def yX0_sightAt : MethodName := ⟨RX0, "sightAt", "(III)I"⟩
abbrev cX0_askPay : ByteArray := prog_2_method_23_code
def yX0_askPay : MethodName := ⟨RX0, "askPay", "(LPaySteer$Solver;II[I)V"⟩
abbrev cX0_askPayIn : ByteArray := prog_2_method_24_code
def yX0_askPayIn : MethodName := ⟨RX0, "askPayIn", "(LPaySteer$Solver;II[I)V"⟩
abbrev cX0_askShares : ByteArray := prog_2_method_25_code
def yX0_askShares : MethodName := ⟨RX0, "askShares", "(LPaySteer$Solver;II)V"⟩
abbrev cX0_askSharesAt : ByteArray := prog_2_method_26_code
def yX0_askSharesAt : MethodName := ⟨RX0, "askSharesAt", "(LPaySteer$Solver;IIII)V"⟩
abbrev cX0_placeBeside : ByteArray := prog_2_method_27_code
def yX0_placeBeside : MethodName := ⟨RX0, "placeBeside", "(II)I"⟩
def RX1 : String := "PaySteer$Contest"
def TX1 : u_T := fun k => match k with
  | 0 => ("PaySteer$Contest", "costs", "[I", true)
  | 1 => ("PaySteer$Contest", "heads", "[I", true)
  | _ => ("PaySteer$Contest", "prize", "I", false)
def tyX1 : Nat → FieldType := fun k => match k with
  | 0 => .array .int
  | 1 => .array .int
  | _ => .int
abbrev wsX10 : List Cond := u_ws RX1 TX1 3
theorem nmX1 : ∀ a, a < 3 → ∀ b, b < 3 → a ≠ b → (TX1 a).2.1 ≠ (TX1 b).2.1 := by decide +kernel
theorem tyX1_ok : ∀ k, k < 3 → parseFieldDescriptor (TX1 k).2.2.1 = some (tyX1 k) := by decide +kernel
abbrev cX1_init : ByteArray := prog_3_method_1_code
def yX1_init : MethodName := ⟨RX1, "<init>", "()V"⟩
abbrev cX1_areCosts : ByteArray := prog_3_method_2_code
def yX1_areCosts : MethodName := ⟨RX1, "areCosts", "(I)Z"⟩
abbrev cX1_set : ByteArray := prog_3_method_3_code
def yX1_set : MethodName := ⟨RX1, "set", "(III)V"⟩
abbrev cX1_howManyCalm : ByteArray := prog_3_method_4_code
def yX1_howManyCalm : MethodName := ⟨RX1, "howManyCalm", "()I"⟩
abbrev cX1_calmAt : ByteArray := prog_3_method_5_code
def yX1_calmAt : MethodName := ⟨RX1, "calmAt", "(I)I"⟩
abbrev cX1_isCalm : ByteArray := prog_3_method_6_code
def yX1_isCalm : MethodName := ⟨RX1, "isCalm", "(II)Z"⟩
abbrev cX1_isContent : ByteArray := prog_3_method_7_code
def yX1_isContent : MethodName := ⟨RX1, "isContent", "(III)Z"⟩
abbrev cX1_left : ByteArray := prog_3_method_8_code
def yX1_left : MethodName := ⟨RX1, "left", "(III)I"⟩
def RX2 : String := "PaySteer$Contracts"
def TX2 : u_T := fun k => match k with
  | 0 => ("PaySteer$Contracts", "tape", "[B", true)
  | 1 => ("PaySteer$Contracts", "texts", "[[B", true)
  | 2 => ("PaySteer$Contracts", "lengths", "[I", true)
  | 3 => ("PaySteer$Contracts", "reader", "LPaySteer$Reader;", true)
  | 4 => ("PaySteer$Contracts", "length", "I", false)
  | _ => ("PaySteer$Contracts", "many", "I", false)
def tyX2 : Nat → FieldType := fun k => match k with
  | 0 => .array .byte
  | 1 => .array (.array .byte)
  | 2 => .array .int
  | 3 => .object "PaySteer$Reader"
  | 4 => .int
  | _ => .int
abbrev wsX20 : List Cond := u_ws RX2 TX2 6
theorem nmX2 : ∀ a, a < 6 → ∀ b, b < 6 → a ≠ b → (TX2 a).2.1 ≠ (TX2 b).2.1 := by decide +kernel
theorem tyX2_ok : ∀ k, k < 6 → parseFieldDescriptor (TX2 k).2.2.1 = some (tyX2 k) := by decide +kernel
abbrev cX2_init : ByteArray := prog_4_method_1_code
def yX2_init : MethodName := ⟨RX2, "<init>", "()V"⟩
abbrev cX2_howMany : ByteArray := prog_4_method_2_code
def yX2_howMany : MethodName := ⟨RX2, "howMany", "()I"⟩
abbrev cX2_tapeLength : ByteArray := prog_4_method_3_code
def yX2_tapeLength : MethodName := ⟨RX2, "tapeLength", "()I"⟩
abbrev cX2_isFull : ByteArray := prog_4_method_4_code
def yX2_isFull : MethodName := ⟨RX2, "isFull", "()Z"⟩
abbrev cX2_isContract : ByteArray := prog_4_method_5_code
def yX2_isContract : MethodName := ⟨RX2, "isContract", "(I)Z"⟩
abbrev cX2_hasRoom : ByteArray := prog_4_method_6_code
def yX2_hasRoom : MethodName := ⟨RX2, "hasRoom", "(I)Z"⟩
abbrev cX2_append : ByteArray := prog_4_method_7_code
def yX2_append : MethodName := ⟨RX2, "append", "(JI)I"⟩
abbrev cX2_readTape : ByteArray := prog_4_method_8_code
def yX2_readTape : MethodName := ⟨RX2, "readTape", "()I"⟩
abbrev cX2_paid : ByteArray := prog_4_method_9_code
def yX2_paid : MethodName := ⟨RX2, "paid", "(III)I"⟩
def RX3 : String := "PaySteer$Menus"
def TX3 : u_T := fun k => match k with
  | _ => ("PaySteer$Menus", "values", "[I", true)
def tyX3 : Nat → FieldType := fun k => match k with
  | _ => .array .int
abbrev wsX30 : List Cond := u_ws RX3 TX3 1
theorem nmX3 : ∀ a, a < 1 → ∀ b, b < 1 → a ≠ b → (TX3 a).2.1 ≠ (TX3 b).2.1 := by decide +kernel
theorem tyX3_ok : ∀ k, k < 1 → parseFieldDescriptor (TX3 k).2.2.1 = some (tyX3 k) := by decide +kernel
abbrev cX3_init : ByteArray := prog_5_method_1_code
def yX3_init : MethodName := ⟨RX3, "<init>", "()V"⟩
abbrev cX3_areRates : ByteArray := prog_5_method_2_code
def yX3_areRates : MethodName := ⟨RX3, "areRates", "(II)Z"⟩
abbrev cX3_areHeads : ByteArray := prog_5_method_3_code
def yX3_areHeads : MethodName := ⟨RX3, "areHeads", "(II)Z"⟩
abbrev cX3_isOffer : ByteArray := prog_5_method_4_code
def yX3_isOffer : MethodName := ⟨RX3, "isOffer", "(II)Z"⟩
abbrev cX3_keeps : ByteArray := prog_5_method_5_code
def yX3_keeps : MethodName := ⟨RX3, "keeps", "(IIIII)Z"⟩
abbrev cX3_setValue : ByteArray := prog_5_method_6_code
def yX3_setValue : MethodName := ⟨RX3, "setValue", "(II)I"⟩
abbrev cX3_told : ByteArray := prog_5_method_7_code
def yX3_told : MethodName := ⟨RX3, "told", "(IIIII)I"⟩
abbrev cX3_leastPay0 : ByteArray := prog_5_method_8_code
def yX3_leastPay0 : MethodName := ⟨RX3, "leastPay0", "(IIII)I"⟩
abbrev cX3_leastPay1 : ByteArray := prog_5_method_9_code
def yX3_leastPay1 : MethodName := ⟨RX3, "leastPay1", "(II)I"⟩
def RX4 : String := "PaySteer$Promises"
def TX4 : u_T := fun k => match k with
  | 0 => ("PaySteer$Promises", "costs", "[I", true)
  | 1 => ("PaySteer$Promises", "chances", "[I", true)
  | 2 => ("PaySteer$Promises", "sums", "[[J", true)
  | 3 => ("PaySteer$Promises", "plans", "[[I", true)
  | 4 => ("PaySteer$Promises", "good", "I", false)
  | _ => ("PaySteer$Promises", "known", "Z", false)
def tyX4 : Nat → FieldType := fun k => match k with
  | 0 => .array .int
  | 1 => .array .int
  | 2 => .array (.array .long)
  | 3 => .array (.array .int)
  | 4 => .int
  | _ => .boolean
abbrev wsX40 : List Cond := u_ws RX4 TX4 6
theorem nmX4 : ∀ a, a < 6 → ∀ b, b < 6 → a ≠ b → (TX4 a).2.1 ≠ (TX4 b).2.1 := by decide +kernel
theorem tyX4_ok : ∀ k, k < 6 → parseFieldDescriptor (TX4 k).2.2.1 = some (tyX4 k) := by decide +kernel
abbrev cX4_init : ByteArray := prog_6_method_1_code
def yX4_init : MethodName := ⟨RX4, "<init>", "()V"⟩
abbrev cX4_isCostOrChance : ByteArray := prog_6_method_2_code
def yX4_isCostOrChance : MethodName := ⟨RX4, "isCostOrChance", "(I)Z"⟩
abbrev cX4_isTerm : ByteArray := prog_6_method_3_code
def yX4_isTerm : MethodName := ⟨RX4, "isTerm", "(I)Z"⟩
abbrev cX4_isPromise : ByteArray := prog_6_method_4_code
def yX4_isPromise : MethodName := ⟨RX4, "isPromise", "(I)Z"⟩
abbrev cX4_set : ByteArray := prog_6_method_5_code
def yX4_set : MethodName := ⟨RX4, "set", "(IIIII)V"⟩
abbrev cX4_sum : ByteArray := prog_6_method_6_code
def yX4_sum : MethodName := ⟨RX4, "sum", "(II)J"⟩
abbrev cX4_plan : ByteArray := prog_6_method_7_code
def yX4_plan : MethodName := ⟨RX4, "plan", "(III)I"⟩
abbrev cX4_bestPromise : ByteArray := prog_6_method_8_code
def yX4_bestPromise : MethodName := ⟨RX4, "bestPromise", "(I)I"⟩
abbrev cX4_learn : ByteArray := prog_6_method_9_code
def yX4_learn : MethodName := ⟨RX4, "learn", "()V"⟩
abbrev cX4_learnTerm : ByteArray := prog_6_method_10_code
def yX4_learnTerm : MethodName := ⟨RX4, "learnTerm", "(IJ)V"⟩
abbrev cX4_weigh : ByteArray := prog_6_method_11_code
def yX4_weigh : MethodName := ⟨RX4, "weigh", "(IJIIII)V"⟩
abbrev cX4_followsOf : ByteArray := prog_6_method_12_code
def yX4_followsOf : MethodName := ⟨RX4, "followsOf", "(III)I"⟩
abbrev cX4_isWilling : ByteArray := prog_6_method_13_code
def yX4_isWilling : MethodName := ⟨RX4, "isWilling", "(III)Z"⟩
def RX5 : String := "PaySteer$Ratchet"
def TX5 : u_T := fun k => match k with
  | _ => ("", "", "", false)
def tyX5 : Nat → FieldType := fun k => match k with
  | _ => .int
abbrev wsX50 : List Cond := u_ws RX5 TX5 0
theorem nmX5 : ∀ a, a < 0 → ∀ b, b < 0 → a ≠ b → (TX5 a).2.1 ≠ (TX5 b).2.1 := by decide +kernel
theorem tyX5_ok : ∀ k, k < 0 → parseFieldDescriptor (TX5 k).2.2.1 = some (tyX5 k) := by decide +kernel
abbrev cX5_taken : ByteArray := prog_7_method_2_code
def yX5_taken : MethodName := ⟨RX5, "taken", "(IIII)I"⟩
abbrev cX5_toil : ByteArray := prog_7_method_3_code
def yX5_toil : MethodName := ⟨RX5, "toil", "(II)I"⟩
def RX6 : String := "PaySteer$Reader"
def TX6 : u_T := fun k => match k with
  | 0 => ("PaySteer$Reader", "text", "[B", false)
  | 1 => ("PaySteer$Reader", "end", "I", false)
  | 2 => ("PaySteer$Reader", "at", "I", false)
  | 3 => ("PaySteer$Reader", "fault", "I", false)
  | 4 => ("PaySteer$Reader", "sightNumber", "I", false)
  | _ => ("PaySteer$Reader", "sightValue", "I", false)
def tyX6 : Nat → FieldType := fun k => match k with
  | 0 => .array .byte
  | 1 => .int
  | 2 => .int
  | 3 => .int
  | 4 => .int
  | _ => .int
abbrev wsX60 : List Cond := u_ws RX6 TX6 6
theorem nmX6 : ∀ a, a < 6 → ∀ b, b < 6 → a ≠ b → (TX6 a).2.1 ≠ (TX6 b).2.1 := by decide +kernel
theorem tyX6_ok : ∀ k, k < 6 → parseFieldDescriptor (TX6 k).2.2.1 = some (tyX6 k) := by decide +kernel
abbrev cX6_init : ByteArray := prog_8_method_1_code
def yX6_init : MethodName := ⟨RX6, "<init>", "()V"⟩
abbrev cX6_fault : ByteArray := prog_8_method_2_code
def yX6_fault : MethodName := ⟨RX6, "fault", "()I"⟩
abbrev cX6_works : ByteArray := prog_8_method_3_code
def yX6_works : MethodName := ⟨RX6, "works", "([BIII)J"⟩
abbrev cX6_next : ByteArray := prog_8_method_4_code
def yX6_next : MethodName := ⟨RX6, "next", "()I"⟩
abbrev cX6_fail : ByteArray := prog_8_method_5_code
def yX6_fail : MethodName := ⟨RX6, "fail", "()V"⟩
abbrev cX6_skips : ByteArray := prog_8_method_6_code
def yX6_skips : MethodName := ⟨RX6, "skips", "(C)Z"⟩
abbrev cX6_needs : ByteArray := prog_8_method_7_code
def yX6_needs : MethodName := ⟨RX6, "needs", "(C)V"⟩
abbrev cX6_kept : ByteArray := prog_8_method_8_code
def yX6_kept : MethodName := ⟨RX6, "kept", "(J)J"⟩
abbrev cX6_sum : ByteArray := prog_8_method_9_code
def yX6_sum : MethodName := ⟨RX6, "sum", "(I)J"⟩
abbrev cX6_product : ByteArray := prog_8_method_10_code
def yX6_product : MethodName := ⟨RX6, "product", "(I)J"⟩
abbrev cX6_atom : ByteArray := prog_8_method_11_code
def yX6_atom : MethodName := ⟨RX6, "atom", "(I)J"⟩
abbrev cX6_number : ByteArray := prog_8_method_12_code
def yX6_number : MethodName := ⟨RX6, "number", "()J"⟩
abbrev cX6_opens : ByteArray := prog_8_method_13_code
def yX6_opens : MethodName := ⟨RX6, "opens", "(I)V"⟩
abbrev cX6_deeper : ByteArray := prog_8_method_14_code
def yX6_deeper : MethodName := ⟨RX6, "deeper", "(I)J"⟩
abbrev cX6_lesserOrGreater : ByteArray := prog_8_method_15_code
def yX6_lesserOrGreater : MethodName := ⟨RX6, "lesserOrGreater", "(I)J"⟩
abbrev cX6_oneOfTwo : ByteArray := prog_8_method_16_code
def yX6_oneOfTwo : MethodName := ⟨RX6, "oneOfTwo", "(I)J"⟩
def RX7 : String := "PaySteer$Solver"
def TX7 : u_T := fun k => match k with
  | 0 => ("PaySteer$Solver", "table", "[[J", true)
  | 1 => ("PaySteer$Solver", "unknowns", "I", false)
  | 2 => ("PaySteer$Solver", "lines", "I", false)
  | _ => ("PaySteer$Solver", "below", "J", false)
def tyX7 : Nat → FieldType := fun k => match k with
  | 0 => .array (.array .long)
  | 1 => .int
  | 2 => .int
  | _ => .long
abbrev wsX70 : List Cond := u_ws RX7 TX7 4
theorem nmX7 : ∀ a, a < 4 → ∀ b, b < 4 → a ≠ b → (TX7 a).2.1 ≠ (TX7 b).2.1 := by decide +kernel
theorem tyX7_ok : ∀ k, k < 4 → parseFieldDescriptor (TX7 k).2.2.1 = some (tyX7 k) := by decide +kernel
abbrev cX7_init : ByteArray := prog_9_method_1_code
def yX7_init : MethodName := ⟨RX7, "<init>", "()V"⟩
abbrev cX7_begin : ByteArray := prog_9_method_2_code
def yX7_begin : MethodName := ⟨RX7, "begin", "(I)V"⟩
abbrev cX7_addLine : ByteArray := prog_9_method_3_code
def yX7_addLine : MethodName := ⟨RX7, "addLine", "()V"⟩
abbrev cX7_addGoal : ByteArray := prog_9_method_4_code
def yX7_addGoal : MethodName := ⟨RX7, "addGoal", "(II)V"⟩
abbrev cX7_addRow : ByteArray := prog_9_method_5_code
def yX7_addRow : MethodName := ⟨RX7, "addRow", "(I)V"⟩
abbrev cX7_add : ByteArray := prog_9_method_6_code
def yX7_add : MethodName := ⟨RX7, "add", "(II)V"⟩
abbrev cX7_solves : ByteArray := prog_9_method_7_code
def yX7_solves : MethodName := ⟨RX7, "solves", "()Z"⟩
abbrev cX7_firstBroken : ByteArray := prog_9_method_8_code
def yX7_firstBroken : MethodName := ⟨RX7, "firstBroken", "()I"⟩
abbrev cX7_mending : ByteArray := prog_9_method_9_code
def yX7_mending : MethodName := ⟨RX7, "mending", "(I)I"⟩
abbrev cX7_growsLess : ByteArray := prog_9_method_10_code
def yX7_growsLess : MethodName := ⟨RX7, "growsLess", "(III)Z"⟩
abbrev cX7_exchange : ByteArray := prog_9_method_11_code
def yX7_exchange : MethodName := ⟨RX7, "exchange", "(II)V"⟩
abbrev cX7_goal : ByteArray := prog_9_method_12_code
def yX7_goal : MethodName := ⟨RX7, "goal", "()J"⟩
abbrev cX7_unknown : ByteArray := prog_9_method_13_code
def yX7_unknown : MethodName := ⟨RX7, "unknown", "(I)J"⟩
abbrev cX7_below : ByteArray := prog_9_method_14_code
def yX7_below : MethodName := ⟨RX7, "below", "()J"⟩
def RX8 : String := "PaySteer$Team"
def TX8 : u_T := fun k => match k with
  | 0 => ("PaySteer$Team", "costs", "[I", true)
  | 1 => ("PaySteer$Team", "shares", "[I", true)
  | 2 => ("PaySteer$Team", "got", "[I", true)
  | _ => ("PaySteer$Team", "many", "I", false)
def tyX8 : Nat → FieldType := fun k => match k with
  | 0 => .array .int
  | 1 => .array .int
  | 2 => .array .int
  | _ => .int
abbrev wsX80 : List Cond := u_ws RX8 TX8 4
theorem nmX8 : ∀ a, a < 4 → ∀ b, b < 4 → a ≠ b → (TX8 a).2.1 ≠ (TX8 b).2.1 := by decide +kernel
theorem tyX8_ok : ∀ k, k < 4 → parseFieldDescriptor (TX8 k).2.2.1 = some (tyX8 k) := by decide +kernel
abbrev cX8_init : ByteArray := prog_10_method_1_code
def yX8_init : MethodName := ⟨RX8, "<init>", "()V"⟩
abbrev cX8_digitAt : ByteArray := prog_10_method_2_code
def yX8_digitAt : MethodName := ⟨RX8, "digitAt", "(II)I"⟩
abbrev cX8_hasMoreDigits : ByteArray := prog_10_method_3_code
def yX8_hasMoreDigits : MethodName := ⟨RX8, "hasMoreDigits", "(II)Z"⟩
abbrev cX8_areCosts : ByteArray := prog_10_method_4_code
def yX8_areCosts : MethodName := ⟨RX8, "areCosts", "(II)Z"⟩
abbrev cX8_areShares : ByteArray := prog_10_method_5_code
def yX8_areShares : MethodName := ⟨RX8, "areShares", "(II)Z"⟩
abbrev cX8_set : ByteArray := prog_10_method_6_code
def yX8_set : MethodName := ⟨RX8, "set", "(III)V"⟩
abbrev cX8_setGot : ByteArray := prog_10_method_7_code
def yX8_setGot : MethodName := ⟨RX8, "setGot", "(II)I"⟩
abbrev cX8_isMember : ByteArray := prog_10_method_8_code
def yX8_isMember : MethodName := ⟨RX8, "isMember", "(I)Z"⟩
abbrev cX8_isSet : ByteArray := prog_10_method_9_code
def yX8_isSet : MethodName := ⟨RX8, "isSet", "(I)Z"⟩
abbrev cX8_keeps : ByteArray := prog_10_method_10_code
def yX8_keeps : MethodName := ⟨RX8, "keeps", "(II)I"⟩
abbrev cX8_firstBreak : ByteArray := prog_10_method_11_code
def yX8_firstBreak : MethodName := ⟨RX8, "firstBreak", "(IZ)I"⟩
abbrev cX8_allGain : ByteArray := prog_10_method_12_code
def yX8_allGain : MethodName := ⟨RX8, "allGain", "(II)Z"⟩
def RX9 : String := "PaySteer$TwoTasks"
def TX9 : u_T := fun k => match k with
  | 0 => ("PaySteer$TwoTasks", "tie", "I", false)
  | 1 => ("PaySteer$TwoTasks", "worthX", "I", false)
  | _ => ("PaySteer$TwoTasks", "worthY", "I", false)
def tyX9 : Nat → FieldType := fun k => match k with
  | 0 => .int
  | 1 => .int
  | _ => .int
abbrev wsX90 : List Cond := u_ws RX9 TX9 3
theorem nmX9 : ∀ a, a < 3 → ∀ b, b < 3 → a ≠ b → (TX9 a).2.1 ≠ (TX9 b).2.1 := by decide +kernel
theorem tyX9_ok : ∀ k, k < 3 → parseFieldDescriptor (TX9 k).2.2.1 = some (tyX9 k) := by decide +kernel
abbrev cX9_init : ByteArray := prog_11_method_1_code
def yX9_init : MethodName := ⟨RX9, "<init>", "()V"⟩
abbrev cX9_isRate : ByteArray := prog_11_method_2_code
def yX9_isRate : MethodName := ⟨RX9, "isRate", "(I)Z"⟩
abbrev cX9_set : ByteArray := prog_11_method_3_code
def yX9_set : MethodName := ⟨RX9, "set", "(III)V"⟩
abbrev cX9_taken : ByteArray := prog_11_method_4_code
def yX9_taken : MethodName := ⟨RX9, "taken", "(II)I"⟩
abbrev cX9_bestBeside : ByteArray := prog_11_method_5_code
def yX9_bestBeside : MethodName := ⟨RX9, "bestBeside", "(II)I"⟩
abbrev cX9_bestRates : ByteArray := prog_11_method_6_code
def yX9_bestRates : MethodName := ⟨RX9, "bestRates", "(I)I"⟩
def RX10 : String := "PaySteer$Years"
def TX10 : u_T := fun k => match k with
  | 0 => ("PaySteer$Years", "done", "[I", true)
  | 1 => ("PaySteer$Years", "seen", "[I", true)
  | 2 => ("PaySteer$Years", "paid", "[I", true)
  | 3 => ("PaySteer$Years", "valued", "[I", true)
  | 4 => ("PaySteer$Years", "drawn", "[I", true)
  | 5 => ("PaySteer$Years", "lotsAhead", "[I", true)
  | 6 => ("PaySteer$Years", "many", "I", false)
  | _ => ("PaySteer$Years", "lot", "I", false)
def tyX10 : Nat → FieldType := fun k => match k with
  | 0 => .array .int
  | 1 => .array .int
  | 2 => .array .int
  | 3 => .array .int
  | 4 => .array .int
  | 5 => .array .int
  | 6 => .int
  | _ => .int
abbrev wsX100 : List Cond := u_ws RX10 TX10 8
theorem nmX10 : ∀ a, a < 8 → ∀ b, b < 8 → a ≠ b → (TX10 a).2.1 ≠ (TX10 b).2.1 := by decide +kernel
theorem tyX10_ok : ∀ k, k < 8 → parseFieldDescriptor (TX10 k).2.2.1 = some (tyX10 k) := by decide +kernel
abbrev cX10_init : ByteArray := prog_12_method_1_code
def yX10_init : MethodName := ⟨RX10, "<init>", "()V"⟩
abbrev cX10_howMany : ByteArray := prog_12_method_2_code
def yX10_howMany : MethodName := ⟨RX10, "howMany", "()I"⟩
abbrev cX10_isFull : ByteArray := prog_12_method_3_code
def yX10_isFull : MethodName := ⟨RX10, "isFull", "()Z"⟩
abbrev cX10_isYear : ByteArray := prog_12_method_4_code
def yX10_isYear : MethodName := ⟨RX10, "isYear", "(I)Z"⟩
abbrev cX10_areLatest : ByteArray := prog_12_method_5_code
def yX10_areLatest : MethodName := ⟨RX10, "areLatest", "(I)Z"⟩
abbrev cX10_setLot : ByteArray := prog_12_method_6_code
def yX10_setLot : MethodName := ⟨RX10, "setLot", "(I)I"⟩
abbrev cX10_nextLot : ByteArray := prog_12_method_7_code
def yX10_nextLot : MethodName := ⟨RX10, "nextLot", "()I"⟩
abbrev cX10_pass : ByteArray := prog_12_method_8_code
def yX10_pass : MethodName := ⟨RX10, "pass", "(IIII)V"⟩
abbrev cX10_takeBack : ByteArray := prog_12_method_9_code
def yX10_takeBack : MethodName := ⟨RX10, "takeBack", "()I"⟩
abbrev cX10_told : ByteArray := prog_12_method_10_code
def yX10_told : MethodName := ⟨RX10, "told", "(II)I"⟩
abbrev cX10_sum : ByteArray := prog_12_method_11_code
def yX10_sum : MethodName := ⟨RX10, "sum", "(I)J"⟩
def RX11 : String := "PaySteer"
def TX11 : u_T := fun k => match k with
  | 0 => ("PaySteer", "acts", "LPaySteer$Acts;", true)
  | 1 => ("PaySteer", "solver", "LPaySteer$Solver;", true)
  | 2 => ("PaySteer", "menus", "LPaySteer$Menus;", true)
  | 3 => ("PaySteer", "promises", "LPaySteer$Promises;", true)
  | 4 => ("PaySteer", "members", "LPaySteer$Team;", true)
  | 5 => ("PaySteer", "rivals", "LPaySteer$Contest;", true)
  | 6 => ("PaySteer", "contracts", "LPaySteer$Contracts;", true)
  | 7 => ("PaySteer", "years", "LPaySteer$Years;", true)
  | 8 => ("PaySteer", "efforts", "LPaySteer$TwoTasks;", true)
  | 9 => ("PaySteer", "told", "[I", true)
  | 10 => ("PaySteer", "offered", "[I", true)
  | _ => ("PaySteer", "joined", "[I", true)
def tyX11 : Nat → FieldType := fun k => match k with
  | 0 => .object "PaySteer$Acts"
  | 1 => .object "PaySteer$Solver"
  | 2 => .object "PaySteer$Menus"
  | 3 => .object "PaySteer$Promises"
  | 4 => .object "PaySteer$Team"
  | 5 => .object "PaySteer$Contest"
  | 6 => .object "PaySteer$Contracts"
  | 7 => .object "PaySteer$Years"
  | 8 => .object "PaySteer$TwoTasks"
  | 9 => .array .int
  | 10 => .array .int
  | _ => .array .int
abbrev wsX110 : List Cond := u_ws RX11 TX11 12
theorem nmX11 : ∀ a, a < 12 → ∀ b, b < 12 → a ≠ b → (TX11 a).2.1 ≠ (TX11 b).2.1 := by decide +kernel
theorem tyX11_ok : ∀ k, k < 12 → parseFieldDescriptor (TX11 k).2.2.1 = some (tyX11 k) := by decide +kernel
abbrev cX11_init : ByteArray := prog_1_method_1_code
def yX11_init : MethodName := ⟨RX11, "<init>", "(I)V"⟩
abbrev cX11_act : ByteArray := prog_1_method_2_code
def yX11_act : MethodName := ⟨RX11, "act", "(I)I"⟩
abbrev cX11_cost : ByteArray := prog_1_method_3_code
def yX11_cost : MethodName := ⟨RX11, "cost", "(II)I"⟩
abbrev cX11_chances : ByteArray := prog_1_method_4_code
def yX11_chances : MethodName := ⟨RX11, "chances", "(III)I"⟩
abbrev cX11_value : ByteArray := prog_1_method_5_code
def yX11_value : MethodName := ⟨RX11, "value", "(II)I"⟩
abbrev cX11_reserve : ByteArray := prog_1_method_6_code
def yX11_reserve : MethodName := ⟨RX11, "reserve", "(I)I"⟩
abbrev cX11_pay : ByteArray := prog_1_method_7_code
def yX11_pay : MethodName := ⟨RX11, "pay", "(II)I"⟩
abbrev cX11_gain : ByteArray := prog_1_method_8_code
def yX11_gain : MethodName := ⟨RX11, "gain", "(II)J"⟩
abbrev cX11_answer : ByteArray := prog_1_method_9_code
def yX11_answer : MethodName := ⟨RX11, "answer", "(I)I"⟩
abbrev cX11_steers : ByteArray := prog_1_method_10_code
def yX11_steers : MethodName := ⟨RX11, "steers", "(II)I"⟩
abbrev cX11_least : ByteArray := prog_1_method_11_code
def yX11_least : MethodName := ⟨RX11, "least", "(IIII)J"⟩
abbrev cX11_proof : ByteArray := prog_1_method_12_code
def yX11_proof : MethodName := ⟨RX11, "proof", "(IIII)J"⟩
abbrev cX11_best : ByteArray := prog_1_method_13_code
def yX11_best : MethodName := ⟨RX11, "best", "(I)I"⟩
abbrev cX11_bestGain : ByteArray := prog_1_method_14_code
def yX11_bestGain : MethodName := ⟨RX11, "bestGain", "(II)J"⟩
abbrev cX11_coarser : ByteArray := prog_1_method_15_code
def yX11_coarser : MethodName := ⟨RX11, "coarser", "(IIII)J"⟩
abbrev cX11_work : ByteArray := prog_1_method_16_code
def yX11_work : MethodName := ⟨RX11, "work", "(II)I"⟩
abbrev cX11_menu : ByteArray := prog_1_method_17_code
def yX11_menu : MethodName := ⟨RX11, "menu", "(IIIII)I"⟩
abbrev cX11_may : ByteArray := prog_1_method_18_code
def yX11_may : MethodName := ⟨RX11, "may", "(IIIIII)I"⟩
abbrev cX11_terms : ByteArray := prog_1_method_19_code
def yX11_terms : MethodName := ⟨RX11, "terms", "(IIIII)I"⟩
abbrev cX11_promise : ByteArray := prog_1_method_20_code
def yX11_promise : MethodName := ⟨RX11, "promise", "(II)J"⟩
abbrev cX11_first : ByteArray := prog_1_method_21_code
def yX11_first : MethodName := ⟨RX11, "first", "(III)I"⟩
abbrev cX11_start : ByteArray := prog_1_method_22_code
def yX11_start : MethodName := ⟨RX11, "start", "(I)I"⟩
abbrev cX11_team : ByteArray := prog_1_method_23_code
def yX11_team : MethodName := ⟨RX11, "team", "(III)I"⟩
abbrev cX11_all : ByteArray := prog_1_method_24_code
def yX11_all : MethodName := ⟨RX11, "all", "(II)I"⟩
abbrev cX11_has : ByteArray := prog_1_method_25_code
def yX11_has : MethodName := ⟨RX11, "has", "(II)I"⟩
abbrev cX11_holds : ByteArray := prog_1_method_26_code
def yX11_holds : MethodName := ⟨RX11, "holds", "(II)I"⟩
abbrev cX11_breaks : ByteArray := prog_1_method_27_code
def yX11_breaks : MethodName := ⟨RX11, "breaks", "(I)I"⟩
abbrev cX11_look : ByteArray := prog_1_method_28_code
def yX11_look : MethodName := ⟨RX11, "look", "(III)J"⟩
abbrev cX11_contest : ByteArray := prog_1_method_29_code
def yX11_contest : MethodName := ⟨RX11, "contest", "(III)I"⟩
abbrev cX11_calms : ByteArray := prog_1_method_30_code
def yX11_calms : MethodName := ⟨RX11, "calms", "()I"⟩
abbrev cX11_calm : ByteArray := prog_1_method_31_code
def yX11_calm : MethodName := ⟨RX11, "calm", "(I)I"⟩
abbrev cX11_feed : ByteArray := prog_1_method_32_code
def yX11_feed : MethodName := ⟨RX11, "feed", "(JI)I"⟩
abbrev cX11_contract : ByteArray := prog_1_method_33_code
def yX11_contract : MethodName := ⟨RX11, "contract", "()I"⟩
abbrev cX11_worth : ByteArray := prog_1_method_34_code
def yX11_worth : MethodName := ⟨RX11, "worth", "(II)I"⟩
abbrev cX11_sign : ByteArray := prog_1_method_35_code
def yX11_sign : MethodName := ⟨RX11, "sign", "(I)I"⟩
abbrev cX11_choose : ByteArray := prog_1_method_36_code
def yX11_choose : MethodName := ⟨RX11, "choose", "(I)I"⟩
abbrev cX11_lot : ByteArray := prog_1_method_37_code
def yX11_lot : MethodName := ⟨RX11, "lot", "(I)I"⟩
abbrev cX11_year : ByteArray := prog_1_method_38_code
def yX11_year : MethodName := ⟨RX11, "year", "(I)I"⟩
abbrev cX11_back : ByteArray := prog_1_method_39_code
def yX11_back : MethodName := ⟨RX11, "back", "()I"⟩
abbrev cX11_then : ByteArray := prog_1_method_40_code
def yX11_then : MethodName := ⟨RX11, "then", "(II)I"⟩
abbrev cX11_account : ByteArray := prog_1_method_41_code
def yX11_account : MethodName := ⟨RX11, "account", "(I)J"⟩
abbrev cX11_likely : ByteArray := prog_1_method_42_code
def yX11_likely : MethodName := ⟨RX11, "likely", "(III)J"⟩
abbrev cX11_suspect : ByteArray := prog_1_method_43_code
def yX11_suspect : MethodName := ⟨RX11, "suspect", "(II)I"⟩
abbrev cX11_tasks : ByteArray := prog_1_method_44_code
def yX11_tasks : MethodName := ⟨RX11, "tasks", "(III)I"⟩
abbrev cX11_doesBoth : ByteArray := prog_1_method_45_code
def yX11_doesBoth : MethodName := ⟨RX11, "doesBoth", "(II)I"⟩
abbrev cX11_rates : ByteArray := prog_1_method_46_code
def yX11_rates : MethodName := ⟨RX11, "rates", "(I)I"⟩
abbrev cX11_ratchet : ByteArray := prog_1_method_47_code
def yX11_ratchet : MethodName := ⟨RX11, "ratchet", "(IIII)I"⟩
abbrev cX11_count : ByteArray := prog_1_method_48_code
def yX11_count : MethodName := ⟨RX11, "count", "(I)I"⟩
abbrev cX11_solvesPay : ByteArray := prog_1_method_49_code
def yX11_solvesPay : MethodName := ⟨RX11, "solvesPay", "(II)Z"⟩
abbrev cX11_keptOfLeast : ByteArray := prog_1_method_50_code
def yX11_keptOfLeast : MethodName := ⟨RX11, "keptOfLeast", "(II)J"⟩
abbrev cX11_readsJoins : ByteArray := prog_1_method_51_code
def yX11_readsJoins : MethodName := ⟨RX11, "readsJoins", "(I)Z"⟩
abbrev cX11_writePay : ByteArray := prog_1_method_52_code
def yX11_writePay : MethodName := ⟨RX11, "writePay", "(I[I)V"⟩
abbrev cX11_within : ByteArray := prog_1_method_53_code
def yX11_within : MethodName := ⟨RX11, "within", "(III)Z"⟩
abbrev cX11_isWorld : ByteArray := prog_1_method_54_code
def yX11_isWorld : MethodName := ⟨RX11, "isWorld", "(I)Z"⟩
abbrev cX11_isWorldSet : ByteArray := prog_1_method_55_code
def yX11_isWorldSet : MethodName := ⟨RX11, "isWorldSet", "(I)Z"⟩
abbrev cX11_part : ByteArray := prog_1_method_56_code
def yX11_part : MethodName := ⟨RX11, "part", "(JJI)J"⟩
abbrev cX11_commonDivisor : ByteArray := prog_1_method_57_code
def yX11_commonDivisor : MethodName := ⟨RX11, "commonDivisor", "(JJ)J"⟩
def RX12 : String := "PaySteerModel"
def TX12 : u_T := fun k => match k with
  | 0 => ("PaySteerModel", "sights", "I", true)
  | 1 => ("PaySteerModel", "acts", "I", false)
  | 2 => ("PaySteerModel", "cost", "[I", true)
  | 3 => ("PaySteerModel", "chances", "[I", true)
  | 4 => ("PaySteerModel", "value", "[I", true)
  | 5 => ("PaySteerModel", "pay", "[I", true)
  | 6 => ("PaySteerModel", "reserve", "I", false)
  | 7 => ("PaySteerModel", "paid", "[I", true)
  | 8 => ("PaySteerModel", "bound", "[J", true)
  | 9 => ("PaySteerModel", "bounds", "I", false)
  | 10 => ("PaySteerModel", "picked", "[I", true)
  | 11 => ("PaySteerModel", "mat", "[J", true)
  | 12 => ("PaySteerModel", "corner", "[J", true)
  | 13 => ("PaySteerModel", "bestPay", "[J", true)
  | 14 => ("PaySteerModel", "bestUp", "J", false)
  | 15 => ("PaySteerModel", "isFound", "Z", false)
  | 16 => ("PaySteerModel", "try0", "[J", true)
  | 17 => ("PaySteerModel", "best0", "[J", true)
  | 18 => ("PaySteerModel", "bestSum", "J", false)
  | 19 => ("PaySteerModel", "hasShares", "Z", false)
  | 20 => ("PaySteerModel", "who", "[I", true)
  | 21 => ("PaySteerModel", "where", "[I", true)
  | 22 => ("PaySteerModel", "hasUp", "J", false)
  | 23 => ("PaySteerModel", "hasDown", "J", false)
  | 24 => ("PaySteerModel", "works", "[I", true)
  | 25 => ("PaySteerModel", "menu", "[I", true)
  | 26 => ("PaySteerModel", "toil", "[I", true)
  | 27 => ("PaySteerModel", "good", "[I", true)
  | 28 => ("PaySteerModel", "goodWorth", "I", false)
  | 29 => ("PaySteerModel", "sums", "[J", true)
  | 30 => ("PaySteerModel", "firsts", "[I", true)
  | 31 => ("PaySteerModel", "members", "I", false)
  | 32 => ("PaySteerModel", "teamCost", "[I", true)
  | 33 => ("PaySteerModel", "teamShare", "[I", true)
  | 34 => ("PaySteerModel", "all", "[I", true)
  | 35 => ("PaySteerModel", "prize", "I", false)
  | 36 => ("PaySteerModel", "effortCost", "[I", true)
  | 37 => ("PaySteerModel", "head", "[I", true)
  | 38 => ("PaySteerModel", "contracts", "I", false)
  | 39 => ("PaySteerModel", "length", "[I", true)
  | 40 => ("PaySteerModel", "codes", "[I", true)
  | 41 => ("PaySteerModel", "tape", "[I", true)
  | 42 => ("PaySteerModel", "taped", "I", false)
  | 43 => ("PaySteerModel", "stack", "[I", true)
  | 44 => ("PaySteerModel", "deep", "I", false)
  | 45 => ("PaySteerModel", "opens", "I", false)
  | 46 => ("PaySteerModel", "out", "I", false)
  | 47 => ("PaySteerModel", "values", "[J", true)
  | 48 => ("PaySteerModel", "lot", "I", false)
  | 49 => ("PaySteerModel", "years", "I", false)
  | 50 => ("PaySteerModel", "yearAct", "[I", true)
  | 51 => ("PaySteerModel", "yearSight", "[I", true)
  | 52 => ("PaySteerModel", "yearPaid", "[I", true)
  | 53 => ("PaySteerModel", "yearValue", "[I", true)
  | 54 => ("PaySteerModel", "yearLot", "[I", true)
  | 55 => ("PaySteerModel", "lotAhead", "[I", true)
  | 56 => ("PaySteerModel", "both", "I", false)
  | 57 => ("PaySteerModel", "worthX", "I", false)
  | _ => ("PaySteerModel", "worthY", "I", false)
def tyX12 : Nat → FieldType := fun k => match k with
  | 0 => .int
  | 1 => .int
  | 2 => .array .int
  | 3 => .array .int
  | 4 => .array .int
  | 5 => .array .int
  | 6 => .int
  | 7 => .array .int
  | 8 => .array .long
  | 9 => .int
  | 10 => .array .int
  | 11 => .array .long
  | 12 => .array .long
  | 13 => .array .long
  | 14 => .long
  | 15 => .boolean
  | 16 => .array .long
  | 17 => .array .long
  | 18 => .long
  | 19 => .boolean
  | 20 => .array .int
  | 21 => .array .int
  | 22 => .long
  | 23 => .long
  | 24 => .array .int
  | 25 => .array .int
  | 26 => .array .int
  | 27 => .array .int
  | 28 => .int
  | 29 => .array .long
  | 30 => .array .int
  | 31 => .int
  | 32 => .array .int
  | 33 => .array .int
  | 34 => .array .int
  | 35 => .int
  | 36 => .array .int
  | 37 => .array .int
  | 38 => .int
  | 39 => .array .int
  | 40 => .array .int
  | 41 => .array .int
  | 42 => .int
  | 43 => .array .int
  | 44 => .int
  | 45 => .int
  | 46 => .int
  | 47 => .array .long
  | 48 => .int
  | 49 => .int
  | 50 => .array .int
  | 51 => .array .int
  | 52 => .array .int
  | 53 => .array .int
  | 54 => .array .int
  | 55 => .array .int
  | 56 => .int
  | 57 => .int
  | _ => .int
abbrev wsX120 : List Cond := u_ws RX12 TX12 59
theorem nmX12 : ∀ a, a < 59 → ∀ b, b < 59 → a ≠ b → (TX12 a).2.1 ≠ (TX12 b).2.1 := by decide +kernel
theorem tyX12_ok : ∀ k, k < 59 → parseFieldDescriptor (TX12 k).2.2.1 = some (tyX12 k) := by decide +kernel
abbrev cX12_init : ByteArray := prog_14_method_2_code
def yX12_init : MethodName := ⟨RX12, "<init>", "(I)V"⟩
abbrev cX12_in : ByteArray := prog_14_method_3_code
def yX12_in : MethodName := ⟨RX12, "in", "(JJJ)Z"⟩
abbrev cX12_isAct : ByteArray := prog_14_method_4_code
def yX12_isAct : MethodName := ⟨RX12, "isAct", "(I)Z"⟩
abbrev cX12_isSight : ByteArray := prog_14_method_5_code
def yX12_isSight : MethodName := ⟨RX12, "isSight", "(I)Z"⟩
abbrev cX12_isWorld : ByteArray := prog_14_method_6_code
def yX12_isWorld : MethodName := ⟨RX12, "isWorld", "(I)Z"⟩
abbrev cX12_chance : ByteArray := prog_14_method_7_code
def yX12_chance : MethodName := ⟨RX12, "chance", "(III)I"⟩
abbrev cX12_act : ByteArray := prog_14_method_8_code
def yX12_act : MethodName := ⟨RX12, "act", "(I)I"⟩
abbrev cX12_cost : ByteArray := prog_14_method_9_code
def yX12_cost : MethodName := ⟨RX12, "cost", "(II)I"⟩
abbrev cX12_chances : ByteArray := prog_14_method_10_code
def yX12_chances : MethodName := ⟨RX12, "chances", "(III)I"⟩
abbrev cX12_value : ByteArray := prog_14_method_11_code
def yX12_value : MethodName := ⟨RX12, "value", "(II)I"⟩
abbrev cX12_reserve : ByteArray := prog_14_method_12_code
def yX12_reserve : MethodName := ⟨RX12, "reserve", "(I)I"⟩
abbrev cX12_pay : ByteArray := prog_14_method_13_code
def yX12_pay : MethodName := ⟨RX12, "pay", "(II)I"⟩
abbrev cX12_looksAtTold : ByteArray := prog_14_method_14_code
def yX12_looksAtTold : MethodName := ⟨RX12, "looksAtTold", "()V"⟩
abbrev cX12_gainOf : ByteArray := prog_14_method_15_code
def yX12_gainOf : MethodName := ⟨RX12, "gainOf", "(II)I"⟩
abbrev cX12_other : ByteArray := prog_14_method_16_code
def yX12_other : MethodName := ⟨RX12, "other", "(II)I"⟩
abbrev cX12_answerOf : ByteArray := prog_14_method_17_code
def yX12_answerOf : MethodName := ⟨RX12, "answerOf", "(I)I"⟩
abbrev cX12_gain : ByteArray := prog_14_method_18_code
def yX12_gain : MethodName := ⟨RX12, "gain", "(II)J"⟩
abbrev cX12_answer : ByteArray := prog_14_method_19_code
def yX12_answer : MethodName := ⟨RX12, "answer", "(I)I"⟩
abbrev cX12_findBounds : ByteArray := prog_14_method_20_code
def yX12_findBounds : MethodName := ⟨RX12, "findBounds", "(II)V"⟩
abbrev cX12_determinant : ByteArray := prog_14_method_21_code
def yX12_determinant : MethodName := ⟨RX12, "determinant", "(I)J"⟩
abbrev cX12_isCorner : ByteArray := prog_14_method_22_code
def yX12_isCorner : MethodName := ⟨RX12, "isCorner", "()Z"⟩
abbrev cX12_isLess : ByteArray := prog_14_method_23_code
def yX12_isLess : MethodName := ⟨RX12, "isLess", "(J)Z"⟩
abbrev cX12_findLeast : ByteArray := prog_14_method_24_code
def yX12_findLeast : MethodName := ⟨RX12, "findLeast", "(II)V"⟩
abbrev cX12_divisor : ByteArray := prog_14_method_25_code
def yX12_divisor : MethodName := ⟨RX12, "divisor", "(JJ)J"⟩
abbrev cX12_part : ByteArray := prog_14_method_26_code
def yX12_part : MethodName := ⟨RX12, "part", "(JJI)J"⟩
abbrev cX12_steers : ByteArray := prog_14_method_27_code
def yX12_steers : MethodName := ⟨RX12, "steers", "(II)I"⟩
abbrev cX12_least : ByteArray := prog_14_method_28_code
def yX12_least : MethodName := ⟨RX12, "least", "(IIII)J"⟩
abbrev cX12_entry : ByteArray := prog_14_method_29_code
def yX12_entry : MethodName := ⟨RX12, "entry", "(IIIII)J"⟩
abbrev cX12_made : ByteArray := prog_14_method_30_code
def yX12_made : MethodName := ⟨RX12, "made", "(IIII)J"⟩
abbrev cX12_trySet : ByteArray := prog_14_method_31_code
def yX12_trySet : MethodName := ⟨RX12, "trySet", "(III)V"⟩
abbrev cX12_bits : ByteArray := prog_14_method_32_code
def yX12_bits : MethodName := ⟨RX12, "bits", "(I)I"⟩
abbrev cX12_findShares : ByteArray := prog_14_method_33_code
def yX12_findShares : MethodName := ⟨RX12, "findShares", "(II)V"⟩
abbrev cX12_proof : ByteArray := prog_14_method_34_code
def yX12_proof : MethodName := ⟨RX12, "proof", "(IIII)J"⟩
abbrev cX12_bestOf : ByteArray := prog_14_method_35_code
def yX12_bestOf : MethodName := ⟨RX12, "bestOf", "(I)I"⟩
abbrev cX12_best : ByteArray := prog_14_method_36_code
def yX12_best : MethodName := ⟨RX12, "best", "(I)I"⟩
abbrev cX12_bestGain : ByteArray := prog_14_method_37_code
def yX12_bestGain : MethodName := ⟨RX12, "bestGain", "(II)J"⟩
abbrev cX12_coarser : ByteArray := prog_14_method_38_code
def yX12_coarser : MethodName := ⟨RX12, "coarser", "(IIII)J"⟩
abbrev cX12_work : ByteArray := prog_14_method_39_code
def yX12_work : MethodName := ⟨RX12, "work", "(II)I"⟩
abbrev cX12_areRates : ByteArray := prog_14_method_40_code
def yX12_areRates : MethodName := ⟨RX12, "areRates", "(II)Z"⟩
abbrev cX12_menu : ByteArray := prog_14_method_41_code
def yX12_menu : MethodName := ⟨RX12, "menu", "(IIIII)I"⟩
abbrev cX12_may : ByteArray := prog_14_method_42_code
def yX12_may : MethodName := ⟨RX12, "may", "(IIIIII)I"⟩
abbrev cX12_terms : ByteArray := prog_14_method_43_code
def yX12_terms : MethodName := ⟨RX12, "terms", "(IIIII)I"⟩
abbrev cX12_hasOf : ByteArray := prog_14_method_44_code
def yX12_hasOf : MethodName := ⟨RX12, "hasOf", "(IIII)I"⟩
abbrev cX12_findTerm : ByteArray := prog_14_method_45_code
def yX12_findTerm : MethodName := ⟨RX12, "findTerm", "(IIJ)V"⟩
abbrev cX12_findSums : ByteArray := prog_14_method_46_code
def yX12_findSums : MethodName := ⟨RX12, "findSums", "(I)V"⟩
abbrev cX12_promise : ByteArray := prog_14_method_47_code
def yX12_promise : MethodName := ⟨RX12, "promise", "(II)J"⟩
abbrev cX12_first : ByteArray := prog_14_method_48_code
def yX12_first : MethodName := ⟨RX12, "first", "(III)I"⟩
abbrev cX12_start : ByteArray := prog_14_method_49_code
def yX12_start : MethodName := ⟨RX12, "start", "(I)I"⟩
abbrev cX12_areDigits : ByteArray := prog_14_method_50_code
def yX12_areDigits : MethodName := ⟨RX12, "areDigits", "(III)Z"⟩
abbrev cX12_team : ByteArray := prog_14_method_51_code
def yX12_team : MethodName := ⟨RX12, "team", "(III)I"⟩
abbrev cX12_all : ByteArray := prog_14_method_52_code
def yX12_all : MethodName := ⟨RX12, "all", "(II)I"⟩
abbrev cX12_isSet : ByteArray := prog_14_method_53_code
def yX12_isSet : MethodName := ⟨RX12, "isSet", "(I)Z"⟩
abbrev cX12_memberHas : ByteArray := prog_14_method_54_code
def yX12_memberHas : MethodName := ⟨RX12, "memberHas", "(II)I"⟩
abbrev cX12_has : ByteArray := prog_14_method_55_code
def yX12_has : MethodName := ⟨RX12, "has", "(II)I"⟩
abbrev cX12_isBroken : ByteArray := prog_14_method_56_code
def yX12_isBroken : MethodName := ⟨RX12, "isBroken", "(II)Z"⟩
abbrev cX12_firstBreak : ByteArray := prog_14_method_57_code
def yX12_firstBreak : MethodName := ⟨RX12, "firstBreak", "(IZ)I"⟩
abbrev cX12_holds : ByteArray := prog_14_method_58_code
def yX12_holds : MethodName := ⟨RX12, "holds", "(II)I"⟩
abbrev cX12_breaks : ByteArray := prog_14_method_59_code
def yX12_breaks : MethodName := ⟨RX12, "breaks", "(I)I"⟩
abbrev cX12_look : ByteArray := prog_14_method_60_code
def yX12_look : MethodName := ⟨RX12, "look", "(III)J"⟩
abbrev cX12_contest : ByteArray := prog_14_method_61_code
def yX12_contest : MethodName := ⟨RX12, "contest", "(III)I"⟩
abbrev cX12_contestHas : ByteArray := prog_14_method_62_code
def yX12_contestHas : MethodName := ⟨RX12, "contestHas", "(III)I"⟩
abbrev cX12_isBest : ByteArray := prog_14_method_63_code
def yX12_isBest : MethodName := ⟨RX12, "isBest", "(III)Z"⟩
abbrev cX12_calmAt : ByteArray := prog_14_method_64_code
def yX12_calmAt : MethodName := ⟨RX12, "calmAt", "(I)I"⟩
abbrev cX12_calms : ByteArray := prog_14_method_65_code
def yX12_calms : MethodName := ⟨RX12, "calms", "()I"⟩
abbrev cX12_calm : ByteArray := prog_14_method_66_code
def yX12_calm : MethodName := ⟨RX12, "calm", "(I)I"⟩
abbrev cX12_feed : ByteArray := prog_14_method_67_code
def yX12_feed : MethodName := ⟨RX12, "feed", "(JI)I"⟩
abbrev cX12_byteAt : ByteArray := prog_14_method_68_code
def yX12_byteAt : MethodName := ⟨RX12, "byteAt", "(I)I"⟩
abbrev cX12_puts : ByteArray := prog_14_method_69_code
def yX12_puts : MethodName := ⟨RX12, "puts", "(I)V"⟩
abbrev cX12_rank : ByteArray := prog_14_method_70_code
def yX12_rank : MethodName := ⟨RX12, "rank", "(I)I"⟩
abbrev cX12_unwinds : ByteArray := prog_14_method_71_code
def yX12_unwinds : MethodName := ⟨RX12, "unwinds", "(I)V"⟩
abbrev cX12_opensAt : ByteArray := prog_14_method_72_code
def yX12_opensAt : MethodName := ⟨RX12, "opensAt", "(II)I"⟩
abbrev cX12_opensWord : ByteArray := prog_14_method_73_code
def yX12_opensWord : MethodName := ⟨RX12, "opensWord", "(I)I"⟩
abbrev cX12_operand : ByteArray := prog_14_method_74_code
def yX12_operand : MethodName := ⟨RX12, "operand", "(I)I"⟩
abbrev cX12_behind : ByteArray := prog_14_method_75_code
def yX12_behind : MethodName := ⟨RX12, "behind", "(I)I"⟩
abbrev cX12_reads : ByteArray := prog_14_method_76_code
def yX12_reads : MethodName := ⟨RX12, "reads", "()I"⟩
abbrev cX12_contract : ByteArray := prog_14_method_77_code
def yX12_contract : MethodName := ⟨RX12, "contract", "()I"⟩
abbrev cX12_kept : ByteArray := prog_14_method_78_code
def yX12_kept : MethodName := ⟨RX12, "kept", "(J)J"⟩
abbrev cX12_worthOf : ByteArray := prog_14_method_79_code
def yX12_worthOf : MethodName := ⟨RX12, "worthOf", "(II)I"⟩
abbrev cX12_isContract : ByteArray := prog_14_method_80_code
def yX12_isContract : MethodName := ⟨RX12, "isContract", "(I)Z"⟩
abbrev cX12_worth : ByteArray := prog_14_method_81_code
def yX12_worth : MethodName := ⟨RX12, "worth", "(II)I"⟩
abbrev cX12_sign : ByteArray := prog_14_method_82_code
def yX12_sign : MethodName := ⟨RX12, "sign", "(I)I"⟩
abbrev cX12_choose : ByteArray := prog_14_method_83_code
def yX12_choose : MethodName := ⟨RX12, "choose", "(I)I"⟩
abbrev cX12_lot : ByteArray := prog_14_method_84_code
def yX12_lot : MethodName := ⟨RX12, "lot", "(I)I"⟩
abbrev cX12_year : ByteArray := prog_14_method_85_code
def yX12_year : MethodName := ⟨RX12, "year", "(I)I"⟩
abbrev cX12_back : ByteArray := prog_14_method_86_code
def yX12_back : MethodName := ⟨RX12, "back", "()I"⟩
abbrev cX12_then : ByteArray := prog_14_method_87_code
def yX12_then : MethodName := ⟨RX12, "then", "(II)I"⟩
abbrev cX12_account : ByteArray := prog_14_method_88_code
def yX12_account : MethodName := ⟨RX12, "account", "(I)J"⟩
abbrev cX12_likelyOf : ByteArray := prog_14_method_89_code
def yX12_likelyOf : MethodName := ⟨RX12, "likelyOf", "(III)J"⟩
abbrev cX12_likely : ByteArray := prog_14_method_90_code
def yX12_likely : MethodName := ⟨RX12, "likely", "(III)J"⟩
abbrev cX12_suspect : ByteArray := prog_14_method_91_code
def yX12_suspect : MethodName := ⟨RX12, "suspect", "(II)I"⟩
abbrev cX12_tasks : ByteArray := prog_14_method_92_code
def yX12_tasks : MethodName := ⟨RX12, "tasks", "(III)I"⟩
abbrev cX12_doesOf : ByteArray := prog_14_method_93_code
def yX12_doesOf : MethodName := ⟨RX12, "doesOf", "(II)I"⟩
abbrev cX12_doesBoth : ByteArray := prog_14_method_94_code
def yX12_doesBoth : MethodName := ⟨RX12, "doesBoth", "(II)I"⟩
abbrev cX12_rates : ByteArray := prog_14_method_95_code
def yX12_rates : MethodName := ⟨RX12, "rates", "(I)I"⟩
abbrev cX12_ratchet : ByteArray := prog_14_method_96_code
def yX12_ratchet : MethodName := ⟨RX12, "ratchet", "(IIII)I"⟩
abbrev cX12_count : ByteArray := prog_14_method_97_code
def yX12_count : MethodName := ⟨RX12, "count", "(I)I"⟩
def RJ6 : String := "java/lang/Integer"
def TJ6 : u_T := fun k => match k with
  | _ => ("", "", "", false)
def tyJ6 : Nat → FieldType := fun k => match k with
  | _ => .int
abbrev wsJ60 : List Cond := u_ws RJ6 TJ6 0
theorem nmJ6 : ∀ a, a < 0 → ∀ b, b < 0 → a ≠ b → (TJ6 a).2.1 ≠ (TJ6 b).2.1 := by decide +kernel
theorem tyJ6_ok : ∀ k, k < 0 → parseFieldDescriptor (TJ6 k).2.2.1 = some (tyJ6 k) := by decide +kernel
abbrev cJ6_compare_7cf53 : ByteArray := prog_15_method_40_code
def yJ6_compare_7cf53 : MethodName := ⟨RJ6, "compare", "(II)I"⟩
abbrev cJ6_bitCount_0f7a4 : ByteArray := prog_15_method_49_code
def yJ6_bitCount_0f7a4 : MethodName := ⟨RJ6, "bitCount", "(I)I"⟩
def RJ9 : String := "java/lang/Math"
def TJ9 : u_T := fun k => match k with
  | _ => ("", "", "", false)
def tyJ9 : Nat → FieldType := fun k => match k with
  | _ => .int
abbrev wsJ90 : List Cond := u_ws RJ9 TJ9 0
theorem nmJ9 : ∀ a, a < 0 → ∀ b, b < 0 → a ≠ b → (TJ9 a).2.1 ≠ (TJ9 b).2.1 := by decide +kernel
theorem tyJ9_ok : ∀ k, k < 0 → parseFieldDescriptor (TJ9 k).2.2.1 = some (tyJ9 k) := by decide +kernel
abbrev cJ9_floorMod_7cf53 : ByteArray := prog_16_method_50_code
def yJ9_floorMod_7cf53 : MethodName := ⟨RJ9, "floorMod", "(II)I"⟩
abbrev cJ9_abs_067f4 : ByteArray := prog_16_method_61_code
def yJ9_abs_067f4 : MethodName := ⟨RJ9, "abs", "(J)J"⟩
abbrev cJ9_max_7cf53 : ByteArray := prog_16_method_65_code
def yJ9_max_7cf53 : MethodName := ⟨RJ9, "max", "(II)I"⟩
abbrev cJ9_max_f86c9 : ByteArray := prog_16_method_66_code
def yJ9_max_f86c9 : MethodName := ⟨RJ9, "max", "(JJ)J"⟩
abbrev cJ9_min_7cf53 : ByteArray := prog_16_method_69_code
def yJ9_min_7cf53 : MethodName := ⟨RJ9, "min", "(II)I"⟩
abbrev cJ9_min_f86c9 : ByteArray := prog_16_method_70_code
def yJ9_min_f86c9 : MethodName := ⟨RJ9, "min", "(JJ)J"⟩
def RJ10 : String := "java/lang/System"
def TJ10 : u_T := fun k => match k with
  | _ => ("", "", "", false)
def tyJ10 : Nat → FieldType := fun k => match k with
  | _ => .int
abbrev wsJ100 : List Cond := u_ws RJ10 TJ10 0
theorem nmJ10 : ∀ a, a < 0 → ∀ b, b < 0 → a ≠ b → (TJ10 a).2.1 ≠ (TJ10 b).2.1 := by decide +kernel
theorem tyJ10_ok : ∀ k, k < 0 → parseFieldDescriptor (TJ10 k).2.2.1 = some (tyJ10 k) := by decide +kernel
def RL : String := "PaySteerLaw"
abbrev cL_cell : ByteArray := method_2_code
def yL_cell : MethodName := ⟨RL, "cell", "([II)I"⟩
abbrev cL_law : ByteArray := code
def yL_law : MethodName := ⟨RL, "law", "([I)Z"⟩
