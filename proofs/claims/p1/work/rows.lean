section
-- ===== PART A: goes FIRST, ahead of the names: the tables' words, and 'selects' of the private methods out of them =====
/-- a private method of a class that the tables say can be made, by its rows of tables_1 -/
def lw_okq (q : MethodName × Nat) : Prop := (q.1.cls ≠ "java/lang/invoke/MethodHandle" ∧ q.1.cls ≠ "java/lang/invoke/VarHandle") ∧ Cond.instantiable q.1.cls q.2 ∈ tables_1 ∧ Cond.privateMethod q.1 ∈ tables_1 ∧ Cond.instanceMethod q.1 ∈ tables_1
theorem lw_p0 : lw_okq (⟨"ShapeJudge$Graph", "isAhead", "(III)Z"⟩, 7) := ⟨⟨by decide +kernel, by decide +kernel⟩, List.mem_of_getElem? (i := 24) (by decide +kernel), List.mem_of_getElem? (i := 324) (by decide +kernel), List.mem_of_getElem? (i := 325) (by decide +kernel)⟩
theorem lw_p1 : lw_okq (⟨"ShapeJudge$Tokens", "become", "(II)V"⟩, 5) := ⟨⟨by decide +kernel, by decide +kernel⟩, List.mem_of_getElem? (i := 87) (by decide +kernel), List.mem_of_getElem? (i := 372) (by decide +kernel), List.mem_of_getElem? (i := 373) (by decide +kernel)⟩
theorem lw_p2 : lw_okq (⟨"ShapeJudge$Tokens", "readNumber", "()V"⟩, 5) := ⟨⟨by decide +kernel, by decide +kernel⟩, List.mem_of_getElem? (i := 87) (by decide +kernel), List.mem_of_getElem? (i := 379) (by decide +kernel), List.mem_of_getElem? (i := 380) (by decide +kernel)⟩
theorem lw_p3 : lw_okq (⟨"ShapeJudge$Tokens", "isClosedText", "()Z"⟩, 5) := ⟨⟨by decide +kernel, by decide +kernel⟩, List.mem_of_getElem? (i := 87) (by decide +kernel), List.mem_of_getElem? (i := 383) (by decide +kernel), List.mem_of_getElem? (i := 384) (by decide +kernel)⟩
theorem lw_p4 : lw_okq (⟨"ShapeJudge$TextReader", "fail", "(I)V"⟩, 10) := ⟨⟨by decide +kernel, by decide +kernel⟩, List.mem_of_getElem? (i := 81) (by decide +kernel), List.mem_of_getElem? (i := 439) (by decide +kernel), List.mem_of_getElem? (i := 440) (by decide +kernel)⟩
theorem lw_p5 : lw_okq (⟨"ShapeJudge$TextReader", "takeToken", "()V"⟩, 10) := ⟨⟨by decide +kernel, by decide +kernel⟩, List.mem_of_getElem? (i := 81) (by decide +kernel), List.mem_of_getElem? (i := 443) (by decide +kernel), List.mem_of_getElem? (i := 444) (by decide +kernel)⟩
theorem lw_p6 : lw_okq (⟨"ShapeJudge$TextReader", "takeShapeWord", "()V"⟩, 10) := ⟨⟨by decide +kernel, by decide +kernel⟩, List.mem_of_getElem? (i := 81) (by decide +kernel), List.mem_of_getElem? (i := 447) (by decide +kernel), List.mem_of_getElem? (i := 448) (by decide +kernel)⟩
theorem lw_p7 : lw_okq (⟨"ShapeJudge$TextReader", "takeSign", "(II)V"⟩, 10) := ⟨⟨by decide +kernel, by decide +kernel⟩, List.mem_of_getElem? (i := 81) (by decide +kernel), List.mem_of_getElem? (i := 459) (by decide +kernel), List.mem_of_getElem? (i := 460) (by decide +kernel)⟩
theorem lw_p8 : lw_okq (⟨"ShapeJudge$TextReader", "takeBody", "()V"⟩, 10) := ⟨⟨by decide +kernel, by decide +kernel⟩, List.mem_of_getElem? (i := 81) (by decide +kernel), List.mem_of_getElem? (i := 463) (by decide +kernel), List.mem_of_getElem? (i := 464) (by decide +kernel)⟩
theorem lw_p9 : lw_okq (⟨"ShapeJudge$TextReader", "takeOne", "()V"⟩, 10) := ⟨⟨by decide +kernel, by decide +kernel⟩, List.mem_of_getElem? (i := 81) (by decide +kernel), List.mem_of_getElem? (i := 467) (by decide +kernel), List.mem_of_getElem? (i := 468) (by decide +kernel)⟩
theorem lw_p10 : lw_okq (⟨"ShapeJudge$TextReader", "takeOpening", "()V"⟩, 10) := ⟨⟨by decide +kernel, by decide +kernel⟩, List.mem_of_getElem? (i := 81) (by decide +kernel), List.mem_of_getElem? (i := 471) (by decide +kernel), List.mem_of_getElem? (i := 472) (by decide +kernel)⟩
theorem lw_p11 : lw_okq (⟨"ShapeJudge$TextReader", "takeShapeEnd", "()V"⟩, 10) := ⟨⟨by decide +kernel, by decide +kernel⟩, List.mem_of_getElem? (i := 81) (by decide +kernel), List.mem_of_getElem? (i := 492) (by decide +kernel), List.mem_of_getElem? (i := 493) (by decide +kernel)⟩
theorem lw_p12 : lw_okq (⟨"ShapeJudge$TextReader", "takeTest", "()V"⟩, 10) := ⟨⟨by decide +kernel, by decide +kernel⟩, List.mem_of_getElem? (i := 81) (by decide +kernel), List.mem_of_getElem? (i := 500) (by decide +kernel), List.mem_of_getElem? (i := 501) (by decide +kernel)⟩
theorem lw_p13 : lw_okq (⟨"ShapeJudge$TextReader", "takeReference", "()V"⟩, 10) := ⟨⟨by decide +kernel, by decide +kernel⟩, List.mem_of_getElem? (i := 81) (by decide +kernel), List.mem_of_getElem? (i := 508) (by decide +kernel), List.mem_of_getElem? (i := 509) (by decide +kernel)⟩
theorem lw_p14 : lw_okq (⟨"ShapeJudge$TextReader", "takeLastNumber", "()V"⟩, 10) := ⟨⟨by decide +kernel, by decide +kernel⟩, List.mem_of_getElem? (i := 81) (by decide +kernel), List.mem_of_getElem? (i := 512) (by decide +kernel), List.mem_of_getElem? (i := 513) (by decide +kernel)⟩
theorem lw_p15 : lw_okq (⟨"ShapeJudge$TextReader", "isNumberFrom", "(II)Z"⟩, 10) := ⟨⟨by decide +kernel, by decide +kernel⟩, List.mem_of_getElem? (i := 81) (by decide +kernel), List.mem_of_getElem? (i := 517) (by decide +kernel), List.mem_of_getElem? (i := 518) (by decide +kernel)⟩
def lw_privs_1 : List (MethodName × Nat) := [(⟨"ShapeJudge$Graph", "isAhead", "(III)Z"⟩, 7), (⟨"ShapeJudge$Tokens", "become", "(II)V"⟩, 5), (⟨"ShapeJudge$Tokens", "readNumber", "()V"⟩, 5), (⟨"ShapeJudge$Tokens", "isClosedText", "()Z"⟩, 5), (⟨"ShapeJudge$TextReader", "fail", "(I)V"⟩, 10), (⟨"ShapeJudge$TextReader", "takeToken", "()V"⟩, 10), (⟨"ShapeJudge$TextReader", "takeShapeWord", "()V"⟩, 10), (⟨"ShapeJudge$TextReader", "takeSign", "(II)V"⟩, 10), (⟨"ShapeJudge$TextReader", "takeBody", "()V"⟩, 10), (⟨"ShapeJudge$TextReader", "takeOne", "()V"⟩, 10), (⟨"ShapeJudge$TextReader", "takeOpening", "()V"⟩, 10), (⟨"ShapeJudge$TextReader", "takeShapeEnd", "()V"⟩, 10), (⟨"ShapeJudge$TextReader", "takeTest", "()V"⟩, 10), (⟨"ShapeJudge$TextReader", "takeReference", "()V"⟩, 10), (⟨"ShapeJudge$TextReader", "takeLastNumber", "()V"⟩, 10), (⟨"ShapeJudge$TextReader", "isNumberFrom", "(II)Z"⟩, 10)]
theorem lw_r1 : ∀ q ∈ lw_privs_1, lw_okq q := List.forall_mem_cons.mpr ⟨lw_p0, List.forall_mem_cons.mpr ⟨lw_p1, List.forall_mem_cons.mpr ⟨lw_p2, List.forall_mem_cons.mpr ⟨lw_p3, List.forall_mem_cons.mpr ⟨lw_p4, List.forall_mem_cons.mpr ⟨lw_p5, List.forall_mem_cons.mpr ⟨lw_p6, List.forall_mem_cons.mpr ⟨lw_p7, List.forall_mem_cons.mpr ⟨lw_p8, List.forall_mem_cons.mpr ⟨lw_p9, List.forall_mem_cons.mpr ⟨lw_p10, List.forall_mem_cons.mpr ⟨lw_p11, List.forall_mem_cons.mpr ⟨lw_p12, List.forall_mem_cons.mpr ⟨lw_p13, List.forall_mem_cons.mpr ⟨lw_p14, List.forall_mem_cons.mpr ⟨lw_p15, fun _ h => absurd h List.not_mem_nil⟩⟩⟩⟩⟩⟩⟩⟩⟩⟩⟩⟩⟩⟩⟩⟩
theorem lw_p16 : lw_okq (⟨"ShapeJudge$TextReader", "takeBehindOne", "()V"⟩, 10) := ⟨⟨by decide +kernel, by decide +kernel⟩, List.mem_of_getElem? (i := 81) (by decide +kernel), List.mem_of_getElem? (i := 521) (by decide +kernel), List.mem_of_getElem? (i := 522) (by decide +kernel)⟩
theorem lw_p17 : lw_okq (⟨"ShapeJudge$TextReader", "takeBehindItem", "()V"⟩, 10) := ⟨⟨by decide +kernel, by decide +kernel⟩, List.mem_of_getElem? (i := 81) (by decide +kernel), List.mem_of_getElem? (i := 525) (by decide +kernel), List.mem_of_getElem? (i := 526) (by decide +kernel)⟩
theorem lw_p18 : lw_okq (⟨"ShapeJudge$TextReader", "settleComma", "()V"⟩, 10) := ⟨⟨by decide +kernel, by decide +kernel⟩, List.mem_of_getElem? (i := 81) (by decide +kernel), List.mem_of_getElem? (i := 529) (by decide +kernel), List.mem_of_getElem? (i := 530) (by decide +kernel)⟩
theorem lw_p19 : lw_okq (⟨"ShapeJudge$TextReader", "settleBar", "()V"⟩, 10) := ⟨⟨by decide +kernel, by decide +kernel⟩, List.mem_of_getElem? (i := 81) (by decide +kernel), List.mem_of_getElem? (i := 534) (by decide +kernel), List.mem_of_getElem? (i := 535) (by decide +kernel)⟩
theorem lw_p20 : lw_okq (⟨"ShapeJudge$TextReader", "takeLeast", "()V"⟩, 10) := ⟨⟨by decide +kernel, by decide +kernel⟩, List.mem_of_getElem? (i := 81) (by decide +kernel), List.mem_of_getElem? (i := 538) (by decide +kernel), List.mem_of_getElem? (i := 539) (by decide +kernel)⟩
theorem lw_p21 : lw_okq (⟨"ShapeJudge$TextReader", "takeMost", "()V"⟩, 10) := ⟨⟨by decide +kernel, by decide +kernel⟩, List.mem_of_getElem? (i := 81) (by decide +kernel), List.mem_of_getElem? (i := 542) (by decide +kernel), List.mem_of_getElem? (i := 543) (by decide +kernel)⟩
theorem lw_p22 : lw_okq (⟨"ShapeJudge$TextReader", "linkShapes", "()V"⟩, 10) := ⟨⟨by decide +kernel, by decide +kernel⟩, List.mem_of_getElem? (i := 81) (by decide +kernel), List.mem_of_getElem? (i := 546) (by decide +kernel), List.mem_of_getElem? (i := 547) (by decide +kernel)⟩
theorem lw_p23 : lw_okq (⟨"ShapeJudge$Book", "dependsOn", "(II)Z"⟩, 16) := ⟨⟨by decide +kernel, by decide +kernel⟩, List.mem_of_getElem? (i := 145) (by decide +kernel), List.mem_of_getElem? (i := 567) (by decide +kernel), List.mem_of_getElem? (i := 568) (by decide +kernel)⟩
theorem lw_p24 : lw_okq (⟨"ShapeJudge$Book", "raiseLevel", "(I)V"⟩, 16) := ⟨⟨by decide +kernel, by decide +kernel⟩, List.mem_of_getElem? (i := 145) (by decide +kernel), List.mem_of_getElem? (i := 575) (by decide +kernel), List.mem_of_getElem? (i := 576) (by decide +kernel)⟩
theorem lw_p25 : lw_okq (⟨"ShapeJudge", "isPair", "(II)Z"⟩, 7) := ⟨⟨by decide +kernel, by decide +kernel⟩, List.mem_of_getElem? (i := 16) (by decide +kernel), List.mem_of_getElem? (i := 595) (by decide +kernel), List.mem_of_getElem? (i := 596) (by decide +kernel)⟩
theorem lw_p26 : lw_okq (⟨"ShapeJudge$Judge", "dropUnfit", "(I)Z"⟩, 10) := ⟨⟨by decide +kernel, by decide +kernel⟩, List.mem_of_getElem? (i := 221) (by decide +kernel), List.mem_of_getElem? (i := 605) (by decide +kernel), List.mem_of_getElem? (i := 606) (by decide +kernel)⟩
theorem lw_p27 : lw_okq (⟨"ShapeJudge$Judge", "suits", "(II[I)Z"⟩, 10) := ⟨⟨by decide +kernel, by decide +kernel⟩, List.mem_of_getElem? (i := 221) (by decide +kernel), List.mem_of_getElem? (i := 609) (by decide +kernel), List.mem_of_getElem? (i := 610) (by decide +kernel)⟩
theorem lw_p28 : lw_okq (⟨"ShapeJudge$Judge", "presentEdges", "(I)I"⟩, 10) := ⟨⟨by decide +kernel, by decide +kernel⟩, List.mem_of_getElem? (i := 221) (by decide +kernel), List.mem_of_getElem? (i := 617) (by decide +kernel), List.mem_of_getElem? (i := 618) (by decide +kernel)⟩
theorem lw_p29 : lw_okq (⟨"ShapeJudge$Judge", "setsDealt", "(II[I)I"⟩, 10) := ⟨⟨by decide +kernel, by decide +kernel⟩, List.mem_of_getElem? (i := 221) (by decide +kernel), List.mem_of_getElem? (i := 621) (by decide +kernel), List.mem_of_getElem? (i := 622) (by decide +kernel)⟩
theorem lw_p30 : lw_okq (⟨"ShapeJudge$Judge", "setsTaken", "(II[I)I"⟩, 10) := ⟨⟨by decide +kernel, by decide +kernel⟩, List.mem_of_getElem? (i := 221) (by decide +kernel), List.mem_of_getElem? (i := 625) (by decide +kernel), List.mem_of_getElem? (i := 626) (by decide +kernel)⟩
theorem lw_p31 : lw_okq (⟨"ShapeJudge$Judge", "passes", "(II[I)Z"⟩, 10) := ⟨⟨by decide +kernel, by decide +kernel⟩, List.mem_of_getElem? (i := 221) (by decide +kernel), List.mem_of_getElem? (i := 629) (by decide +kernel), List.mem_of_getElem? (i := 630) (by decide +kernel)⟩
def lw_privs_2 : List (MethodName × Nat) := [(⟨"ShapeJudge$TextReader", "takeBehindOne", "()V"⟩, 10), (⟨"ShapeJudge$TextReader", "takeBehindItem", "()V"⟩, 10), (⟨"ShapeJudge$TextReader", "settleComma", "()V"⟩, 10), (⟨"ShapeJudge$TextReader", "settleBar", "()V"⟩, 10), (⟨"ShapeJudge$TextReader", "takeLeast", "()V"⟩, 10), (⟨"ShapeJudge$TextReader", "takeMost", "()V"⟩, 10), (⟨"ShapeJudge$TextReader", "linkShapes", "()V"⟩, 10), (⟨"ShapeJudge$Book", "dependsOn", "(II)Z"⟩, 16), (⟨"ShapeJudge$Book", "raiseLevel", "(I)V"⟩, 16), (⟨"ShapeJudge", "isPair", "(II)Z"⟩, 7), (⟨"ShapeJudge$Judge", "dropUnfit", "(I)Z"⟩, 10), (⟨"ShapeJudge$Judge", "suits", "(II[I)Z"⟩, 10), (⟨"ShapeJudge$Judge", "presentEdges", "(I)I"⟩, 10), (⟨"ShapeJudge$Judge", "setsDealt", "(II[I)I"⟩, 10), (⟨"ShapeJudge$Judge", "setsTaken", "(II[I)I"⟩, 10), (⟨"ShapeJudge$Judge", "passes", "(II[I)Z"⟩, 10)]
theorem lw_r2 : ∀ q ∈ lw_privs_2, lw_okq q := List.forall_mem_cons.mpr ⟨lw_p16, List.forall_mem_cons.mpr ⟨lw_p17, List.forall_mem_cons.mpr ⟨lw_p18, List.forall_mem_cons.mpr ⟨lw_p19, List.forall_mem_cons.mpr ⟨lw_p20, List.forall_mem_cons.mpr ⟨lw_p21, List.forall_mem_cons.mpr ⟨lw_p22, List.forall_mem_cons.mpr ⟨lw_p23, List.forall_mem_cons.mpr ⟨lw_p24, List.forall_mem_cons.mpr ⟨lw_p25, List.forall_mem_cons.mpr ⟨lw_p26, List.forall_mem_cons.mpr ⟨lw_p27, List.forall_mem_cons.mpr ⟨lw_p28, List.forall_mem_cons.mpr ⟨lw_p29, List.forall_mem_cons.mpr ⟨lw_p30, List.forall_mem_cons.mpr ⟨lw_p31, fun _ h => absurd h List.not_mem_nil⟩⟩⟩⟩⟩⟩⟩⟩⟩⟩⟩⟩⟩⟩⟩⟩
theorem lw_p32 : lw_okq (⟨"ShapeJudge$Judge", "times", "(II)I"⟩, 10) := ⟨⟨by decide +kernel, by decide +kernel⟩, List.mem_of_getElem? (i := 221) (by decide +kernel), List.mem_of_getElem? (i := 633) (by decide +kernel), List.mem_of_getElem? (i := 634) (by decide +kernel)⟩
theorem lw_p33 : lw_okq (⟨"ShapeJudge$Judge", "addSuiting", "()Z"⟩, 10) := ⟨⟨by decide +kernel, by decide +kernel⟩, List.mem_of_getElem? (i := 221) (by decide +kernel), List.mem_of_getElem? (i := 650) (by decide +kernel), List.mem_of_getElem? (i := 651) (by decide +kernel)⟩
theorem lw_p34 : lw_okq (⟨"ShapeJudge$Judge", "bindToLeastPart", "(III)I"⟩, 10) := ⟨⟨by decide +kernel, by decide +kernel⟩, List.mem_of_getElem? (i := 221) (by decide +kernel), List.mem_of_getElem? (i := 681) (by decide +kernel), List.mem_of_getElem? (i := 682) (by decide +kernel)⟩
theorem lw_p35 : lw_okq (⟨"ShapeJudge", "pairsIn", "([I)I"⟩, 7) := ⟨⟨by decide +kernel, by decide +kernel⟩, List.mem_of_getElem? (i := 16) (by decide +kernel), List.mem_of_getElem? (i := 731) (by decide +kernel), List.mem_of_getElem? (i := 732) (by decide +kernel)⟩
theorem lw_p36 : lw_okq (⟨"ShapeJudgeModel", "isNode", "(I)Z"⟩, 57) := ⟨⟨by decide +kernel, by decide +kernel⟩, List.mem_of_getElem? (i := 735) (by decide +kernel), List.mem_of_getElem? (i := 921) (by decide +kernel), List.mem_of_getElem? (i := 922) (by decide +kernel)⟩
theorem lw_p37 : lw_okq (⟨"ShapeJudgeModel", "isThere", "(III)Z"⟩, 57) := ⟨⟨by decide +kernel, by decide +kernel⟩, List.mem_of_getElem? (i := 735) (by decide +kernel), List.mem_of_getElem? (i := 933) (by decide +kernel), List.mem_of_getElem? (i := 934) (by decide +kernel)⟩
theorem lw_p38 : lw_okq (⟨"ShapeJudgeModel", "placeOf", "(III)I"⟩, 57) := ⟨⟨by decide +kernel, by decide +kernel⟩, List.mem_of_getElem? (i := 735) (by decide +kernel), List.mem_of_getElem? (i := 937) (by decide +kernel), List.mem_of_getElem? (i := 938) (by decide +kernel)⟩
theorem lw_p39 : lw_okq (⟨"ShapeJudgeModel", "edges", "()I"⟩, 57) := ⟨⟨by decide +kernel, by decide +kernel⟩, List.mem_of_getElem? (i := 735) (by decide +kernel), List.mem_of_getElem? (i := 941) (by decide +kernel), List.mem_of_getElem? (i := 942) (by decide +kernel)⟩
theorem lw_p40 : lw_okq (⟨"ShapeJudgeModel", "put", "(I)V"⟩, 57) := ⟨⟨by decide +kernel, by decide +kernel⟩, List.mem_of_getElem? (i := 735) (by decide +kernel), List.mem_of_getElem? (i := 953) (by decide +kernel), List.mem_of_getElem? (i := 954) (by decide +kernel)⟩
theorem lw_p41 : lw_okq (⟨"ShapeJudgeModel", "next", "()V"⟩, 57) := ⟨⟨by decide +kernel, by decide +kernel⟩, List.mem_of_getElem? (i := 735) (by decide +kernel), List.mem_of_getElem? (i := 965) (by decide +kernel), List.mem_of_getElem? (i := 966) (by decide +kernel)⟩
theorem lw_p42 : lw_okq (⟨"ShapeJudgeModel", "look", "(I)I"⟩, 57) := ⟨⟨by decide +kernel, by decide +kernel⟩, List.mem_of_getElem? (i := 735) (by decide +kernel), List.mem_of_getElem? (i := 969) (by decide +kernel), List.mem_of_getElem? (i := 970) (by decide +kernel)⟩
theorem lw_p43 : lw_okq (⟨"ShapeJudgeModel", "fails", "(II)V"⟩, 57) := ⟨⟨by decide +kernel, by decide +kernel⟩, List.mem_of_getElem? (i := 735) (by decide +kernel), List.mem_of_getElem? (i := 977) (by decide +kernel), List.mem_of_getElem? (i := 978) (by decide +kernel)⟩
theorem lw_p44 : lw_okq (⟨"ShapeJudgeModel", "isClosed", "()Z"⟩, 57) := ⟨⟨by decide +kernel, by decide +kernel⟩, List.mem_of_getElem? (i := 735) (by decide +kernel), List.mem_of_getElem? (i := 983) (by decide +kernel), List.mem_of_getElem? (i := 984) (by decide +kernel)⟩
theorem lw_p45 : lw_okq (⟨"ShapeJudgeModel", "readShape", "()V"⟩, 57) := ⟨⟨by decide +kernel, by decide +kernel⟩, List.mem_of_getElem? (i := 735) (by decide +kernel), List.mem_of_getElem? (i := 990) (by decide +kernel), List.mem_of_getElem? (i := 991) (by decide +kernel)⟩
theorem lw_p46 : lw_okq (⟨"ShapeJudgeModel", "taken", "(I)I"⟩, 57) := ⟨⟨by decide +kernel, by decide +kernel⟩, List.mem_of_getElem? (i := 735) (by decide +kernel), List.mem_of_getElem? (i := 994) (by decide +kernel), List.mem_of_getElem? (i := 995) (by decide +kernel)⟩
theorem lw_p47 : lw_okq (⟨"ShapeJudgeModel", "taken2", "(I)V"⟩, 57) := ⟨⟨by decide +kernel, by decide +kernel⟩, List.mem_of_getElem? (i := 735) (by decide +kernel), List.mem_of_getElem? (i := 998) (by decide +kernel), List.mem_of_getElem? (i := 999) (by decide +kernel)⟩
def lw_privs_3 : List (MethodName × Nat) := [(⟨"ShapeJudge$Judge", "times", "(II)I"⟩, 10), (⟨"ShapeJudge$Judge", "addSuiting", "()Z"⟩, 10), (⟨"ShapeJudge$Judge", "bindToLeastPart", "(III)I"⟩, 10), (⟨"ShapeJudge", "pairsIn", "([I)I"⟩, 7), (⟨"ShapeJudgeModel", "isNode", "(I)Z"⟩, 57), (⟨"ShapeJudgeModel", "isThere", "(III)Z"⟩, 57), (⟨"ShapeJudgeModel", "placeOf", "(III)I"⟩, 57), (⟨"ShapeJudgeModel", "edges", "()I"⟩, 57), (⟨"ShapeJudgeModel", "put", "(I)V"⟩, 57), (⟨"ShapeJudgeModel", "next", "()V"⟩, 57), (⟨"ShapeJudgeModel", "look", "(I)I"⟩, 57), (⟨"ShapeJudgeModel", "fails", "(II)V"⟩, 57), (⟨"ShapeJudgeModel", "isClosed", "()Z"⟩, 57), (⟨"ShapeJudgeModel", "readShape", "()V"⟩, 57), (⟨"ShapeJudgeModel", "taken", "(I)I"⟩, 57), (⟨"ShapeJudgeModel", "taken2", "(I)V"⟩, 57)]
theorem lw_r3 : ∀ q ∈ lw_privs_3, lw_okq q := List.forall_mem_cons.mpr ⟨lw_p32, List.forall_mem_cons.mpr ⟨lw_p33, List.forall_mem_cons.mpr ⟨lw_p34, List.forall_mem_cons.mpr ⟨lw_p35, List.forall_mem_cons.mpr ⟨lw_p36, List.forall_mem_cons.mpr ⟨lw_p37, List.forall_mem_cons.mpr ⟨lw_p38, List.forall_mem_cons.mpr ⟨lw_p39, List.forall_mem_cons.mpr ⟨lw_p40, List.forall_mem_cons.mpr ⟨lw_p41, List.forall_mem_cons.mpr ⟨lw_p42, List.forall_mem_cons.mpr ⟨lw_p43, List.forall_mem_cons.mpr ⟨lw_p44, List.forall_mem_cons.mpr ⟨lw_p45, List.forall_mem_cons.mpr ⟨lw_p46, List.forall_mem_cons.mpr ⟨lw_p47, fun _ h => absurd h List.not_mem_nil⟩⟩⟩⟩⟩⟩⟩⟩⟩⟩⟩⟩⟩⟩⟩⟩
theorem lw_p48 : lw_okq (⟨"ShapeJudgeModel", "is", "(I)Z"⟩, 57) := ⟨⟨by decide +kernel, by decide +kernel⟩, List.mem_of_getElem? (i := 735) (by decide +kernel), List.mem_of_getElem? (i := 1002) (by decide +kernel), List.mem_of_getElem? (i := 1003) (by decide +kernel)⟩
theorem lw_p49 : lw_okq (⟨"ShapeJudgeModel", "readAny", "()V"⟩, 57) := ⟨⟨by decide +kernel, by decide +kernel⟩, List.mem_of_getElem? (i := 735) (by decide +kernel), List.mem_of_getElem? (i := 1006) (by decide +kernel), List.mem_of_getElem? (i := 1007) (by decide +kernel)⟩
theorem lw_p50 : lw_okq (⟨"ShapeJudgeModel", "comes", "(II)I"⟩, 57) := ⟨⟨by decide +kernel, by decide +kernel⟩, List.mem_of_getElem? (i := 735) (by decide +kernel), List.mem_of_getElem? (i := 1010) (by decide +kernel), List.mem_of_getElem? (i := 1011) (by decide +kernel)⟩
theorem lw_p51 : lw_okq (⟨"ShapeJudgeModel", "readPart", "(I)V"⟩, 57) := ⟨⟨by decide +kernel, by decide +kernel⟩, List.mem_of_getElem? (i := 735) (by decide +kernel), List.mem_of_getElem? (i := 1014) (by decide +kernel), List.mem_of_getElem? (i := 1015) (by decide +kernel)⟩
theorem lw_p52 : lw_okq (⟨"ShapeJudgeModel", "readCount", "(I)V"⟩, 57) := ⟨⟨by decide +kernel, by decide +kernel⟩, List.mem_of_getElem? (i := 735) (by decide +kernel), List.mem_of_getElem? (i := 1018) (by decide +kernel), List.mem_of_getElem? (i := 1019) (by decide +kernel)⟩
theorem lw_p53 : lw_okq (⟨"ShapeJudgeModel", "number", "(II)I"⟩, 57) := ⟨⟨by decide +kernel, by decide +kernel⟩, List.mem_of_getElem? (i := 735) (by decide +kernel), List.mem_of_getElem? (i := 1022) (by decide +kernel), List.mem_of_getElem? (i := 1023) (by decide +kernel)⟩
theorem lw_p54 : lw_okq (⟨"ShapeJudgeModel", "settleWords", "()V"⟩, 57) := ⟨⟨by decide +kernel, by decide +kernel⟩, List.mem_of_getElem? (i := 735) (by decide +kernel), List.mem_of_getElem? (i := 1027) (by decide +kernel), List.mem_of_getElem? (i := 1028) (by decide +kernel)⟩
theorem lw_p55 : lw_okq (⟨"ShapeJudgeModel", "wordAt", "(I)I"⟩, 57) := ⟨⟨by decide +kernel, by decide +kernel⟩, List.mem_of_getElem? (i := 735) (by decide +kernel), List.mem_of_getElem? (i := 1031) (by decide +kernel), List.mem_of_getElem? (i := 1032) (by decide +kernel)⟩
theorem lw_p56 : lw_okq (⟨"ShapeJudgeModel", "findLeads", "(Z)V"⟩, 57) := ⟨⟨by decide +kernel, by decide +kernel⟩, List.mem_of_getElem? (i := 735) (by decide +kernel), List.mem_of_getElem? (i := 1035) (by decide +kernel), List.mem_of_getElem? (i := 1036) (by decide +kernel)⟩
theorem lw_p57 : lw_okq (⟨"ShapeJudgeModel", "areBoth", "(II)Z"⟩, 57) := ⟨⟨by decide +kernel, by decide +kernel⟩, List.mem_of_getElem? (i := 735) (by decide +kernel), List.mem_of_getElem? (i := 1047) (by decide +kernel), List.mem_of_getElem? (i := 1048) (by decide +kernel)⟩
theorem lw_p58 : lw_okq (⟨"ShapeJudgeModel", "isShape", "(I)Z"⟩, 57) := ⟨⟨by decide +kernel, by decide +kernel⟩, List.mem_of_getElem? (i := 735) (by decide +kernel), List.mem_of_getElem? (i := 1051) (by decide +kernel), List.mem_of_getElem? (i := 1052) (by decide +kernel)⟩
theorem lw_p59 : lw_okq (⟨"ShapeJudgeModel", "read", "()V"⟩, 57) := ⟨⟨by decide +kernel, by decide +kernel⟩, List.mem_of_getElem? (i := 735) (by decide +kernel), List.mem_of_getElem? (i := 1055) (by decide +kernel), List.mem_of_getElem? (i := 1056) (by decide +kernel)⟩
theorem lw_p60 : lw_okq (⟨"ShapeJudgeModel", "free", "()V"⟩, 57) := ⟨⟨by decide +kernel, by decide +kernel⟩, List.mem_of_getElem? (i := 735) (by decide +kernel), List.mem_of_getElem? (i := 1059) (by decide +kernel), List.mem_of_getElem? (i := 1060) (by decide +kernel)⟩
theorem lw_p61 : lw_okq (⟨"ShapeJudgeModel", "findRanks", "()V"⟩, 57) := ⟨⟨by decide +kernel, by decide +kernel⟩, List.mem_of_getElem? (i := 735) (by decide +kernel), List.mem_of_getElem? (i := 1063) (by decide +kernel), List.mem_of_getElem? (i := 1064) (by decide +kernel)⟩
theorem lw_p62 : lw_okq (⟨"ShapeJudgeModel", "changes", "(IZ)Z"⟩, 57) := ⟨⟨by decide +kernel, by decide +kernel⟩, List.mem_of_getElem? (i := 735) (by decide +kernel), List.mem_of_getElem? (i := 1067) (by decide +kernel), List.mem_of_getElem? (i := 1068) (by decide +kernel)⟩
theorem lw_p63 : lw_okq (⟨"ShapeJudgeModel", "can", "(IIZ)Z"⟩, 57) := ⟨⟨by decide +kernel, by decide +kernel⟩, List.mem_of_getElem? (i := 735) (by decide +kernel), List.mem_of_getElem? (i := 1071) (by decide +kernel), List.mem_of_getElem? (i := 1072) (by decide +kernel)⟩
def lw_privs_4 : List (MethodName × Nat) := [(⟨"ShapeJudgeModel", "is", "(I)Z"⟩, 57), (⟨"ShapeJudgeModel", "readAny", "()V"⟩, 57), (⟨"ShapeJudgeModel", "comes", "(II)I"⟩, 57), (⟨"ShapeJudgeModel", "readPart", "(I)V"⟩, 57), (⟨"ShapeJudgeModel", "readCount", "(I)V"⟩, 57), (⟨"ShapeJudgeModel", "number", "(II)I"⟩, 57), (⟨"ShapeJudgeModel", "settleWords", "()V"⟩, 57), (⟨"ShapeJudgeModel", "wordAt", "(I)I"⟩, 57), (⟨"ShapeJudgeModel", "findLeads", "(Z)V"⟩, 57), (⟨"ShapeJudgeModel", "areBoth", "(II)Z"⟩, 57), (⟨"ShapeJudgeModel", "isShape", "(I)Z"⟩, 57), (⟨"ShapeJudgeModel", "read", "()V"⟩, 57), (⟨"ShapeJudgeModel", "free", "()V"⟩, 57), (⟨"ShapeJudgeModel", "findRanks", "()V"⟩, 57), (⟨"ShapeJudgeModel", "changes", "(IZ)Z"⟩, 57), (⟨"ShapeJudgeModel", "can", "(IIZ)Z"⟩, 57)]
theorem lw_r4 : ∀ q ∈ lw_privs_4, lw_okq q := List.forall_mem_cons.mpr ⟨lw_p48, List.forall_mem_cons.mpr ⟨lw_p49, List.forall_mem_cons.mpr ⟨lw_p50, List.forall_mem_cons.mpr ⟨lw_p51, List.forall_mem_cons.mpr ⟨lw_p52, List.forall_mem_cons.mpr ⟨lw_p53, List.forall_mem_cons.mpr ⟨lw_p54, List.forall_mem_cons.mpr ⟨lw_p55, List.forall_mem_cons.mpr ⟨lw_p56, List.forall_mem_cons.mpr ⟨lw_p57, List.forall_mem_cons.mpr ⟨lw_p58, List.forall_mem_cons.mpr ⟨lw_p59, List.forall_mem_cons.mpr ⟨lw_p60, List.forall_mem_cons.mpr ⟨lw_p61, List.forall_mem_cons.mpr ⟨lw_p62, List.forall_mem_cons.mpr ⟨lw_p63, fun _ h => absurd h List.not_mem_nil⟩⟩⟩⟩⟩⟩⟩⟩⟩⟩⟩⟩⟩⟩⟩⟩
theorem lw_p64 : lw_okq (⟨"ShapeJudgeModel", "wantedSet", "(II)I"⟩, 57) := ⟨⟨by decide +kernel, by decide +kernel⟩, List.mem_of_getElem? (i := 735) (by decide +kernel), List.mem_of_getElem? (i := 1075) (by decide +kernel), List.mem_of_getElem? (i := 1076) (by decide +kernel)⟩
theorem lw_p65 : lw_okq (⟨"ShapeJudgeModel", "isWanted", "(II)Z"⟩, 57) := ⟨⟨by decide +kernel, by decide +kernel⟩, List.mem_of_getElem? (i := 735) (by decide +kernel), List.mem_of_getElem? (i := 1079) (by decide +kernel), List.mem_of_getElem? (i := 1080) (by decide +kernel)⟩
theorem lw_p66 : lw_okq (⟨"ShapeJudgeModel", "dealtTo", "(IIZ)I"⟩, 57) := ⟨⟨by decide +kernel, by decide +kernel⟩, List.mem_of_getElem? (i := 735) (by decide +kernel), List.mem_of_getElem? (i := 1083) (by decide +kernel), List.mem_of_getElem? (i := 1084) (by decide +kernel)⟩
theorem lw_p67 : lw_okq (⟨"ShapeJudgeModel", "takes", "(IIIZ)Z"⟩, 57) := ⟨⟨by decide +kernel, by decide +kernel⟩, List.mem_of_getElem? (i := 735) (by decide +kernel), List.mem_of_getElem? (i := 1087) (by decide +kernel), List.mem_of_getElem? (i := 1088) (by decide +kernel)⟩
theorem lw_p68 : lw_okq (⟨"ShapeJudgeModel", "counted", "(III)I"⟩, 57) := ⟨⟨by decide +kernel, by decide +kernel⟩, List.mem_of_getElem? (i := 735) (by decide +kernel), List.mem_of_getElem? (i := 1091) (by decide +kernel), List.mem_of_getElem? (i := 1092) (by decide +kernel)⟩
theorem lw_p69 : lw_okq (⟨"ShapeJudgeModel", "without", "(II)V"⟩, 57) := ⟨⟨by decide +kernel, by decide +kernel⟩, List.mem_of_getElem? (i := 735) (by decide +kernel), List.mem_of_getElem? (i := 1118) (by decide +kernel), List.mem_of_getElem? (i := 1119) (by decide +kernel)⟩
def lw_privs_5 : List (MethodName × Nat) := [(⟨"ShapeJudgeModel", "wantedSet", "(II)I"⟩, 57), (⟨"ShapeJudgeModel", "isWanted", "(II)Z"⟩, 57), (⟨"ShapeJudgeModel", "dealtTo", "(IIZ)I"⟩, 57), (⟨"ShapeJudgeModel", "takes", "(IIIZ)Z"⟩, 57), (⟨"ShapeJudgeModel", "counted", "(III)I"⟩, 57), (⟨"ShapeJudgeModel", "without", "(II)V"⟩, 57)]
theorem lw_r5 : ∀ q ∈ lw_privs_5, lw_okq q := List.forall_mem_cons.mpr ⟨lw_p64, List.forall_mem_cons.mpr ⟨lw_p65, List.forall_mem_cons.mpr ⟨lw_p66, List.forall_mem_cons.mpr ⟨lw_p67, List.forall_mem_cons.mpr ⟨lw_p68, List.forall_mem_cons.mpr ⟨lw_p69, fun _ h => absurd h List.not_mem_nil⟩⟩⟩⟩⟩⟩
def lw_privs : List (MethodName × Nat) := lw_privs_1 ++ (lw_privs_2 ++ (lw_privs_3 ++ (lw_privs_4 ++ (lw_privs_5))))
def lw_tbl : List Cond := k2_sels lw_privs ++ tables_1
theorem lw_privs_ok : ∀ q ∈ lw_privs, lw_okq q := by
  show ∀ q ∈ lw_privs_1 ++ (lw_privs_2 ++ (lw_privs_3 ++ (lw_privs_4 ++ (lw_privs_5)))), lw_okq q
  exact List.forall_mem_append.mpr ⟨lw_r1, List.forall_mem_append.mpr ⟨lw_r2, List.forall_mem_append.mpr ⟨lw_r3, List.forall_mem_append.mpr ⟨lw_r4, lw_r5⟩⟩⟩⟩
-- ===== end of PART A; then your names; then what follows =====
/-! ===== BEGIN words of one list among another's, by their places ===== -/
theorem goodIn_r {big : List Cond} (ws : List Cond) (ps : List Nat) (hp : ws = ps.filterMap (fun i => big[i]?)) (h : ws.all goodWord = true) : GoodIn big ws := by
  intro w hw
  have h1 := List.all_eq_true.mp h w hw
  rw [hp] at hw
  obtain ⟨i, -, hi⟩ := List.mem_filterMap.mp hw
  have hm : w ∈ big := by first | exact List.mem_of_getElem? hi | exact List.getElem?_mem hi
  exact ⟨hm, good_of_word h1⟩
theorem goodIn_app {big a b : List Cond} (ha : GoodIn big a) (hb : GoodIn big b) : GoodIn big (a ++ b) := fun w h => (List.mem_append.mp h).elim (ha w) (hb w)
theorem goodIn_ca {big a b : List Cond} {c : Cond} (ha : GoodIn big (c :: a)) (hb : GoodIn big b) : GoodIn big (c :: (a ++ b)) := fun w h => (List.mem_cons.mp h).elim (fun e => ha w (List.mem_cons.mpr (Or.inl e))) (fun h => (List.mem_append.mp h).elim (fun h => ha w (List.mem_cons.mpr (Or.inr h))) (hb w))
theorem goodIn_sub {big ws : List Cond} (hm : ∀ w ∈ ws, w ∈ big) (h : ws.all goodWord = true) : GoodIn big ws := fun w hw => ⟨hm w hw, good_of_word (List.all_eq_true.mp h w hw)⟩
/-! ===== END ===== -/

/-! ===== BEGIN printed: names, fields, word lists, decode rows ===== -/
def RX0 : String := "ShapeJudge$Book"
def TX0 : u_T := fun k => match k with
  | 0 => ("ShapeJudge$Book", "shapeCount", "I", false)
  | 1 => ("ShapeJudge$Book", "stepCount", "I", false)
  | 2 => ("ShapeJudge$Book", "lastSlot", "I", false)
  | 3 => ("ShapeJudge$Book", "word", "[I", true)
  | 4 => ("ShapeJudge$Book", "partCount", "[I", true)
  | 5 => ("ShapeJudge$Book", "closed", "[Z", true)
  | 6 => ("ShapeJudge$Book", "names", "[I", true)
  | 7 => ("ShapeJudge$Book", "reach", "[I", true)
  | 8 => ("ShapeJudge$Book", "level", "[I", true)
  | 9 => ("ShapeJudge$Book", "firstStep", "[I", true)
  | 10 => ("ShapeJudge$Book", "steps", "[I", true)
  | 11 => ("ShapeJudge$Book", "partName", "[I", true)
  | 12 => ("ShapeJudge$Book", "partTest", "[I", true)
  | 13 => ("ShapeJudge$Book", "partFirst", "[I", true)
  | 14 => ("ShapeJudge$Book", "partSecond", "[I", true)
  | _ => ("ShapeJudge$Book", "partPlace", "[I", true)
def tyX0 : Nat → FieldType := fun k => match k with
  | 0 => .int
  | 1 => .int
  | 2 => .int
  | 3 => .array .int
  | 4 => .array .int
  | 5 => .array .boolean
  | 6 => .array .int
  | 7 => .array .int
  | 8 => .array .int
  | 9 => .array .int
  | 10 => .array .int
  | 11 => .array .int
  | 12 => .array .int
  | 13 => .array .int
  | 14 => .array .int
  | _ => .array .int
abbrev wsX00 : List Cond := u_ws RX0 TX0 16
theorem nmX0 : ∀ a, a < 16 → ∀ b, b < 16 → a ≠ b → (TX0 a).2.1 ≠ (TX0 b).2.1 := by decide +kernel
theorem tyX0_ok : ∀ k, k < 16 → parseFieldDescriptor (TX0 k).2.2.1 = some (tyX0 k) := by decide +kernel
abbrev cX0_init : ByteArray := prog_2_method_1_code
def yX0_init : MethodName := ⟨RX0, "<init>", "()V"⟩
abbrev cX0_hasShape : ByteArray := prog_2_method_2_code
def yX0_hasShape : MethodName := ⟨RX0, "hasShape", "(I)Z"⟩
abbrev cX0_hasPart : ByteArray := prog_2_method_3_code
def yX0_hasPart : MethodName := ⟨RX0, "hasPart", "(II)Z"⟩
abbrev cX0_shapeOf : ByteArray := prog_2_method_4_code
def yX0_shapeOf : MethodName := ⟨RX0, "shapeOf", "(I)I"⟩
abbrev cX0_clear : ByteArray := prog_2_method_5_code
def yX0_clear : MethodName := ⟨RX0, "clear", "()V"⟩
abbrev cX0_openShape : ByteArray := prog_2_method_6_code
def yX0_openShape : MethodName := ⟨RX0, "openShape", "(I)V"⟩
abbrev cX0_closeShape : ByteArray := prog_2_method_7_code
def yX0_closeShape : MethodName := ⟨RX0, "closeShape", "()V"⟩
abbrev cX0_hasRoomForPart : ByteArray := prog_2_method_8_code
def yX0_hasRoomForPart : MethodName := ⟨RX0, "hasRoomForPart", "()Z"⟩
abbrev cX0_addPart : ByteArray := prog_2_method_9_code
def yX0_addPart : MethodName := ⟨RX0, "addPart", "(I)V"⟩
abbrev cX0_tellPart : ByteArray := prog_2_method_10_code
def yX0_tellPart : MethodName := ⟨RX0, "tellPart", "(IIII)V"⟩
abbrev cX0_addStep : ByteArray := prog_2_method_11_code
def yX0_addStep : MethodName := ⟨RX0, "addStep", "(II)V"⟩
abbrev cX0_refers : ByteArray := prog_2_method_12_code
def yX0_refers : MethodName := ⟨RX0, "refers", "(I)Z"⟩
abbrev cX0_linkReferences : ByteArray := prog_2_method_13_code
def yX0_linkReferences : MethodName := ⟨RX0, "linkReferences", "()I"⟩
abbrev cX0_findReach : ByteArray := prog_2_method_14_code
def yX0_findReach : MethodName := ⟨RX0, "findReach", "()V"⟩
abbrev cX0_placeOfCircle : ByteArray := prog_2_method_15_code
def yX0_placeOfCircle : MethodName := ⟨RX0, "placeOfCircle", "()I"⟩
abbrev cX0_dependsOn : ByteArray := prog_2_method_16_code
def yX0_dependsOn : MethodName := ⟨RX0, "dependsOn", "(II)Z"⟩
abbrev cX0_findLevels : ByteArray := prog_2_method_17_code
def yX0_findLevels : MethodName := ⟨RX0, "findLevels", "()V"⟩
abbrev cX0_raiseLevel : ByteArray := prog_2_method_18_code
def yX0_raiseLevel : MethodName := ⟨RX0, "raiseLevel", "(I)V"⟩
def RX1 : String := "ShapeJudge$Graph"
def TX1 : u_T := fun k => match k with
  | 0 => ("ShapeJudge$Graph", "nodes", "I", false)
  | 1 => ("ShapeJudge$Graph", "edges", "I", false)
  | 2 => ("ShapeJudge$Graph", "valued", "[Z", true)
  | 3 => ("ShapeJudge$Graph", "values", "[I", true)
  | 4 => ("ShapeJudge$Graph", "degrees", "[I", true)
  | 5 => ("ShapeJudge$Graph", "edgeName", "[I", true)
  | _ => ("ShapeJudge$Graph", "edgeTo", "[I", true)
def tyX1 : Nat → FieldType := fun k => match k with
  | 0 => .int
  | 1 => .int
  | 2 => .array .boolean
  | 3 => .array .int
  | 4 => .array .int
  | 5 => .array .int
  | _ => .array .int
abbrev wsX10 : List Cond := u_ws RX1 TX1 7
theorem nmX1 : ∀ a, a < 7 → ∀ b, b < 7 → a ≠ b → (TX1 a).2.1 ≠ (TX1 b).2.1 := by decide +kernel
theorem tyX1_ok : ∀ k, k < 7 → parseFieldDescriptor (TX1 k).2.2.1 = some (tyX1 k) := by decide +kernel
abbrev cX1_init : ByteArray := prog_3_method_1_code
def yX1_init : MethodName := ⟨RX1, "<init>", "()V"⟩
abbrev cX1_hasNode : ByteArray := prog_3_method_2_code
def yX1_hasNode : MethodName := ⟨RX1, "hasNode", "(I)Z"⟩
abbrev cX1_hasEdge : ByteArray := prog_3_method_3_code
def yX1_hasEdge : MethodName := ⟨RX1, "hasEdge", "(II)Z"⟩
abbrev cX1_canBeEdge : ByteArray := prog_3_method_4_code
def yX1_canBeEdge : MethodName := ⟨RX1, "canBeEdge", "(III)Z"⟩
abbrev cX1_clear : ByteArray := prog_3_method_5_code
def yX1_clear : MethodName := ⟨RX1, "clear", "()V"⟩
abbrev cX1_addNode : ByteArray := prog_3_method_6_code
def yX1_addNode : MethodName := ⟨RX1, "addNode", "(ZI)I"⟩
abbrev cX1_setValue : ByteArray := prog_3_method_7_code
def yX1_setValue : MethodName := ⟨RX1, "setValue", "(IZI)V"⟩
abbrev cX1_placeOf : ByteArray := prog_3_method_8_code
def yX1_placeOf : MethodName := ⟨RX1, "placeOf", "(III)I"⟩
abbrev cX1_addEdge : ByteArray := prog_3_method_9_code
def yX1_addEdge : MethodName := ⟨RX1, "addEdge", "(III)V"⟩
abbrev cX1_removeEdge : ByteArray := prog_3_method_10_code
def yX1_removeEdge : MethodName := ⟨RX1, "removeEdge", "(II)V"⟩
abbrev cX1_isAhead : ByteArray := prog_3_method_11_code
def yX1_isAhead : MethodName := ⟨RX1, "isAhead", "(III)Z"⟩
def RX2 : String := "ShapeJudge$Judge"
def TX2 : u_T := fun k => match k with
  | 0 => ("ShapeJudge$Judge", "graph", "LShapeJudge$Graph;", true)
  | 1 => ("ShapeJudge$Judge", "book", "LShapeJudge$Book;", false)
  | 2 => ("ShapeJudge$Judge", "fitting", "[I", true)
  | 3 => ("ShapeJudge$Judge", "sure", "[I", true)
  | 4 => ("ShapeJudge$Judge", "fittingIsRead", "Z", false)
  | 5 => ("ShapeJudge$Judge", "sureIsRead", "Z", false)
  | 6 => ("ShapeJudge$Judge", "allowed", "[I", true)
  | 7 => ("ShapeJudge$Judge", "stack", "[I", true)
  | 8 => ("ShapeJudge$Judge", "thinNode", "I", false)
  | _ => ("ShapeJudge$Judge", "goneEdges", "I", false)
def tyX2 : Nat → FieldType := fun k => match k with
  | 0 => .object "ShapeJudge$Graph"
  | 1 => .object "ShapeJudge$Book"
  | 2 => .array .int
  | 3 => .array .int
  | 4 => .boolean
  | 5 => .boolean
  | 6 => .array .int
  | 7 => .array .int
  | 8 => .int
  | _ => .int
abbrev wsX20 : List Cond := u_ws RX2 TX2 10
theorem nmX2 : ∀ a, a < 10 → ∀ b, b < 10 → a ≠ b → (TX2 a).2.1 ≠ (TX2 b).2.1 := by decide +kernel
theorem tyX2_ok : ∀ k, k < 10 → parseFieldDescriptor (TX2 k).2.2.1 = some (tyX2 k) := by decide +kernel
abbrev cX2_init : ByteArray := prog_4_method_1_code
def yX2_init : MethodName := ⟨RX2, "<init>", "(LShapeJudge$Graph;LShapeJudge$Book;)V"⟩
abbrev cX2_follow : ByteArray := prog_4_method_2_code
def yX2_follow : MethodName := ⟨RX2, "follow", "(LShapeJudge$Book;)V"⟩
abbrev cX2_forget : ByteArray := prog_4_method_3_code
def yX2_forget : MethodName := ⟨RX2, "forget", "()V"⟩
abbrev cX2_readFits : ByteArray := prog_4_method_4_code
def yX2_readFits : MethodName := ⟨RX2, "readFits", "()V"⟩
abbrev cX2_dropUnfit : ByteArray := prog_4_method_5_code
def yX2_dropUnfit : MethodName := ⟨RX2, "dropUnfit", "(I)Z"⟩
abbrev cX2_readSure : ByteArray := prog_4_method_6_code
def yX2_readSure : MethodName := ⟨RX2, "readSure", "()V"⟩
abbrev cX2_addSuiting : ByteArray := prog_4_method_7_code
def yX2_addSuiting : MethodName := ⟨RX2, "addSuiting", "()Z"⟩
abbrev cX2_presentEdges : ByteArray := prog_4_method_8_code
def yX2_presentEdges : MethodName := ⟨RX2, "presentEdges", "(I)I"⟩
abbrev cX2_wantedEdges : ByteArray := prog_4_method_9_code
def yX2_wantedEdges : MethodName := ⟨RX2, "wantedEdges", "(II)I"⟩
abbrev cX2_suits : ByteArray := prog_4_method_10_code
def yX2_suits : MethodName := ⟨RX2, "suits", "(II[I)Z"⟩
abbrev cX2_setsDealt : ByteArray := prog_4_method_11_code
def yX2_setsDealt : MethodName := ⟨RX2, "setsDealt", "(II[I)I"⟩
abbrev cX2_times : ByteArray := prog_4_method_12_code
def yX2_times : MethodName := ⟨RX2, "times", "(II)I"⟩
abbrev cX2_both : ByteArray := prog_4_method_13_code
def yX2_both : MethodName := ⟨RX2, "both", "(II)I"⟩
abbrev cX2_setsTaken : ByteArray := prog_4_method_14_code
def yX2_setsTaken : MethodName := ⟨RX2, "setsTaken", "(II[I)I"⟩
abbrev cX2_passes : ByteArray := prog_4_method_15_code
def yX2_passes : MethodName := ⟨RX2, "passes", "(II[I)Z"⟩
abbrev cX2_leastPartOf : ByteArray := prog_4_method_16_code
def yX2_leastPartOf : MethodName := ⟨RX2, "leastPartOf", "(III)I"⟩
abbrev cX2_bindToLeastPart : ByteArray := prog_4_method_17_code
def yX2_bindToLeastPart : MethodName := ⟨RX2, "bindToLeastPart", "(III)I"⟩
abbrev cX2_surplusEdges : ByteArray := prog_4_method_18_code
def yX2_surplusEdges : MethodName := ⟨RX2, "surplusEdges", "(II)I"⟩
def RX3 : String := "ShapeJudge$Tape"
def TX3 : u_T := fun k => match k with
  | 0 => ("ShapeJudge$Tape", "bytes", "[B", true)
  | _ => ("ShapeJudge$Tape", "length", "I", false)
def tyX3 : Nat → FieldType := fun k => match k with
  | 0 => .array .byte
  | _ => .int
abbrev wsX30 : List Cond := u_ws RX3 TX3 2
theorem nmX3 : ∀ a, a < 2 → ∀ b, b < 2 → a ≠ b → (TX3 a).2.1 ≠ (TX3 b).2.1 := by decide +kernel
theorem tyX3_ok : ∀ k, k < 2 → parseFieldDescriptor (TX3 k).2.2.1 = some (tyX3 k) := by decide +kernel
abbrev cX3_init : ByteArray := prog_5_method_1_code
def yX3_init : MethodName := ⟨RX3, "<init>", "()V"⟩
abbrev cX3_byteAt : ByteArray := prog_5_method_2_code
def yX3_byteAt : MethodName := ⟨RX3, "byteAt", "(I)I"⟩
abbrev cX3_append : ByteArray := prog_5_method_3_code
def yX3_append : MethodName := ⟨RX3, "append", "(I)V"⟩
def RX4 : String := "ShapeJudge$TextReader"
def TX4 : u_T := fun k => match k with
  | 0 => ("ShapeJudge$TextReader", "tokens", "LShapeJudge$Tokens;", true)
  | 1 => ("ShapeJudge$TextReader", "book", "LShapeJudge$Book;", false)
  | 2 => ("ShapeJudge$TextReader", "state", "I", false)
  | 3 => ("ShapeJudge$TextReader", "depth", "I", false)
  | 4 => ("ShapeJudge$TextReader", "commas", "I", false)
  | 5 => ("ShapeJudge$TextReader", "bars", "I", false)
  | 6 => ("ShapeJudge$TextReader", "test", "I", false)
  | 7 => ("ShapeJudge$TextReader", "firstNumber", "I", false)
  | 8 => ("ShapeJudge$TextReader", "faultKind", "I", false)
  | _ => ("ShapeJudge$TextReader", "faultPlace", "I", false)
def tyX4 : Nat → FieldType := fun k => match k with
  | 0 => .object "ShapeJudge$Tokens"
  | 1 => .object "ShapeJudge$Book"
  | 2 => .int
  | 3 => .int
  | 4 => .int
  | 5 => .int
  | 6 => .int
  | 7 => .int
  | 8 => .int
  | _ => .int
abbrev wsX40 : List Cond := u_ws RX4 TX4 10
theorem nmX4 : ∀ a, a < 10 → ∀ b, b < 10 → a ≠ b → (TX4 a).2.1 ≠ (TX4 b).2.1 := by decide +kernel
theorem tyX4_ok : ∀ k, k < 10 → parseFieldDescriptor (TX4 k).2.2.1 = some (tyX4 k) := by decide +kernel
abbrev cX4_init : ByteArray := prog_6_method_1_code
def yX4_init : MethodName := ⟨RX4, "<init>", "(LShapeJudge$Tape;)V"⟩
abbrev cX4_readText : ByteArray := prog_6_method_2_code
def yX4_readText : MethodName := ⟨RX4, "readText", "(LShapeJudge$Book;)V"⟩
abbrev cX4_fail : ByteArray := prog_6_method_3_code
def yX4_fail : MethodName := ⟨RX4, "fail", "(I)V"⟩
abbrev cX4_takeToken : ByteArray := prog_6_method_4_code
def yX4_takeToken : MethodName := ⟨RX4, "takeToken", "()V"⟩
abbrev cX4_takeSign : ByteArray := prog_6_method_5_code
def yX4_takeSign : MethodName := ⟨RX4, "takeSign", "(II)V"⟩
abbrev cX4_takeShapeWord : ByteArray := prog_6_method_6_code
def yX4_takeShapeWord : MethodName := ⟨RX4, "takeShapeWord", "()V"⟩
abbrev cX4_takeBody : ByteArray := prog_6_method_7_code
def yX4_takeBody : MethodName := ⟨RX4, "takeBody", "()V"⟩
abbrev cX4_takeShapeEnd : ByteArray := prog_6_method_8_code
def yX4_takeShapeEnd : MethodName := ⟨RX4, "takeShapeEnd", "()V"⟩
abbrev cX4_takeOne : ByteArray := prog_6_method_9_code
def yX4_takeOne : MethodName := ⟨RX4, "takeOne", "()V"⟩
abbrev cX4_takeOpening : ByteArray := prog_6_method_10_code
def yX4_takeOpening : MethodName := ⟨RX4, "takeOpening", "()V"⟩
abbrev cX4_takeTest : ByteArray := prog_6_method_11_code
def yX4_takeTest : MethodName := ⟨RX4, "takeTest", "()V"⟩
abbrev cX4_takeReference : ByteArray := prog_6_method_12_code
def yX4_takeReference : MethodName := ⟨RX4, "takeReference", "()V"⟩
abbrev cX4_takeLastNumber : ByteArray := prog_6_method_13_code
def yX4_takeLastNumber : MethodName := ⟨RX4, "takeLastNumber", "()V"⟩
abbrev cX4_takeBehindOne : ByteArray := prog_6_method_14_code
def yX4_takeBehindOne : MethodName := ⟨RX4, "takeBehindOne", "()V"⟩
abbrev cX4_takeLeast : ByteArray := prog_6_method_15_code
def yX4_takeLeast : MethodName := ⟨RX4, "takeLeast", "()V"⟩
abbrev cX4_takeMost : ByteArray := prog_6_method_16_code
def yX4_takeMost : MethodName := ⟨RX4, "takeMost", "()V"⟩
abbrev cX4_isNumberFrom : ByteArray := prog_6_method_17_code
def yX4_isNumberFrom : MethodName := ⟨RX4, "isNumberFrom", "(II)Z"⟩
abbrev cX4_takeBehindItem : ByteArray := prog_6_method_18_code
def yX4_takeBehindItem : MethodName := ⟨RX4, "takeBehindItem", "()V"⟩
abbrev cX4_settleComma : ByteArray := prog_6_method_19_code
def yX4_settleComma : MethodName := ⟨RX4, "settleComma", "()V"⟩
abbrev cX4_settleBar : ByteArray := prog_6_method_20_code
def yX4_settleBar : MethodName := ⟨RX4, "settleBar", "()V"⟩
abbrev cX4_linkShapes : ByteArray := prog_6_method_21_code
def yX4_linkShapes : MethodName := ⟨RX4, "linkShapes", "()V"⟩
def RX5 : String := "ShapeJudge$Tokens"
def TX5 : u_T := fun k => match k with
  | 0 => ("ShapeJudge$Tokens", "tape", "LShapeJudge$Tape;", true)
  | 1 => ("ShapeJudge$Tokens", "next", "I", false)
  | 2 => ("ShapeJudge$Tokens", "kind", "I", false)
  | 3 => ("ShapeJudge$Tokens", "place", "I", false)
  | _ => ("ShapeJudge$Tokens", "number", "I", false)
def tyX5 : Nat → FieldType := fun k => match k with
  | 0 => .object "ShapeJudge$Tape"
  | 1 => .int
  | 2 => .int
  | 3 => .int
  | _ => .int
abbrev wsX50 : List Cond := u_ws RX5 TX5 5
theorem nmX5 : ∀ a, a < 5 → ∀ b, b < 5 → a ≠ b → (TX5 a).2.1 ≠ (TX5 b).2.1 := by decide +kernel
theorem tyX5_ok : ∀ k, k < 5 → parseFieldDescriptor (TX5 k).2.2.1 = some (tyX5 k) := by decide +kernel
abbrev cX5_init : ByteArray := prog_7_method_1_code
def yX5_init : MethodName := ⟨RX5, "<init>", "(LShapeJudge$Tape;)V"⟩
abbrev cX5_rewind : ByteArray := prog_7_method_2_code
def yX5_rewind : MethodName := ⟨RX5, "rewind", "()V"⟩
abbrev cX5_advance : ByteArray := prog_7_method_3_code
def yX5_advance : MethodName := ⟨RX5, "advance", "()V"⟩
abbrev cX5_become : ByteArray := prog_7_method_4_code
def yX5_become : MethodName := ⟨RX5, "become", "(II)V"⟩
abbrev cX5_readNumber : ByteArray := prog_7_method_5_code
def yX5_readNumber : MethodName := ⟨RX5, "readNumber", "()V"⟩
abbrev cX5_isClosedText : ByteArray := prog_7_method_6_code
def yX5_isClosedText : MethodName := ⟨RX5, "isClosedText", "()Z"⟩
abbrev cX5_isFigure : ByteArray := prog_7_method_7_code
def yX5_isFigure : MethodName := ⟨RX5, "isFigure", "(I)Z"⟩
abbrev cX5_isSign : ByteArray := prog_7_method_8_code
def yX5_isSign : MethodName := ⟨RX5, "isSign", "(I)Z"⟩
def RX6 : String := "ShapeJudge"
def TX6 : u_T := fun k => match k with
  | 0 => ("ShapeJudge", "graph", "LShapeJudge$Graph;", true)
  | 1 => ("ShapeJudge", "tape", "LShapeJudge$Tape;", true)
  | 2 => ("ShapeJudge", "reader", "LShapeJudge$TextReader;", true)
  | 3 => ("ShapeJudge", "judge", "LShapeJudge$Judge;", true)
  | 4 => ("ShapeJudge", "book", "LShapeJudge$Book;", false)
  | 5 => ("ShapeJudge", "spare", "LShapeJudge$Book;", false)
  | _ => ("ShapeJudge", "latestFault", "I", false)
def tyX6 : Nat → FieldType := fun k => match k with
  | 0 => .object "ShapeJudge$Graph"
  | 1 => .object "ShapeJudge$Tape"
  | 2 => .object "ShapeJudge$TextReader"
  | 3 => .object "ShapeJudge$Judge"
  | 4 => .object "ShapeJudge$Book"
  | 5 => .object "ShapeJudge$Book"
  | _ => .int
abbrev wsX60 : List Cond := u_ws RX6 TX6 7
theorem nmX6 : ∀ a, a < 7 → ∀ b, b < 7 → a ≠ b → (TX6 a).2.1 ≠ (TX6 b).2.1 := by decide +kernel
theorem tyX6_ok : ∀ k, k < 7 → parseFieldDescriptor (TX6 k).2.2.1 = some (tyX6 k) := by decide +kernel
abbrev cX6_init : ByteArray := prog_1_method_1_code
def yX6_init : MethodName := ⟨RX6, "<init>", "()V"⟩
abbrev cX6_node : ByteArray := prog_1_method_2_code
def yX6_node : MethodName := ⟨RX6, "node", "(ZI)I"⟩
abbrev cX6_value : ByteArray := prog_1_method_3_code
def yX6_value : MethodName := ⟨RX6, "value", "(IZI)I"⟩
abbrev cX6_edge : ByteArray := prog_1_method_4_code
def yX6_edge : MethodName := ⟨RX6, "edge", "(III)I"⟩
abbrev cX6_cut : ByteArray := prog_1_method_5_code
def yX6_cut : MethodName := ⟨RX6, "cut", "(III)I"⟩
abbrev cX6_feed : ByteArray := prog_1_method_6_code
def yX6_feed : MethodName := ⟨RX6, "feed", "(IIIII)I"⟩
abbrev cX6_end : ByteArray := prog_1_method_7_code
def yX6_end : MethodName := ⟨RX6, "end", "(I)I"⟩
abbrev cX6_shapes : ByteArray := prog_1_method_8_code
def yX6_shapes : MethodName := ⟨RX6, "shapes", "()I"⟩
abbrev cX6_fault : ByteArray := prog_1_method_9_code
def yX6_fault : MethodName := ⟨RX6, "fault", "()I"⟩
abbrev cX6_fits : ByteArray := prog_1_method_10_code
def yX6_fits : MethodName := ⟨RX6, "fits", "(II)I"⟩
abbrev cX6_surely : ByteArray := prog_1_method_11_code
def yX6_surely : MethodName := ⟨RX6, "surely", "(II)I"⟩
abbrev cX6_all : ByteArray := prog_1_method_12_code
def yX6_all : MethodName := ⟨RX6, "all", "(I)I"⟩
abbrev cX6_wanted : ByteArray := prog_1_method_13_code
def yX6_wanted : MethodName := ⟨RX6, "wanted", "(II)I"⟩
abbrev cX6_dealt : ByteArray := prog_1_method_14_code
def yX6_dealt : MethodName := ⟨RX6, "dealt", "(III)I"⟩
abbrev cX6_tooMany : ByteArray := prog_1_method_15_code
def yX6_tooMany : MethodName := ⟨RX6, "tooMany", "(II)I"⟩
abbrev cX6_which : ByteArray := prog_1_method_16_code
def yX6_which : MethodName := ⟨RX6, "which", "(II)I"⟩
abbrev cX6_depends : ByteArray := prog_1_method_17_code
def yX6_depends : MethodName := ⟨RX6, "depends", "(II)I"⟩
abbrev cX6_part : ByteArray := prog_1_method_18_code
def yX6_part : MethodName := ⟨RX6, "part", "(III)I"⟩
abbrev cX6_told : ByteArray := prog_1_method_19_code
def yX6_told : MethodName := ⟨RX6, "told", "(II)I"⟩
abbrev cX6_from : ByteArray := prog_1_method_20_code
def yX6_from : MethodName := ⟨RX6, "from", "(III)I"⟩
abbrev cX6_reset : ByteArray := prog_1_method_21_code
def yX6_reset : MethodName := ⟨RX6, "reset", "()I"⟩
abbrev cX6_count : ByteArray := prog_1_method_22_code
def yX6_count : MethodName := ⟨RX6, "count", "(I)I"⟩
abbrev cX6_isPair : ByteArray := prog_1_method_23_code
def yX6_isPair : MethodName := ⟨RX6, "isPair", "(II)Z"⟩
abbrev cX6_pairsIn : ByteArray := prog_1_method_24_code
def yX6_pairsIn : MethodName := ⟨RX6, "pairsIn", "([I)I"⟩
def RX7 : String := "ShapeJudgeModel"
def TX7 : u_T := fun k => match k with
  | 0 => ("ShapeJudgeModel", "nodes", "I", false)
  | 1 => ("ShapeJudgeModel", "hasValue", "[Z", true)
  | 2 => ("ShapeJudgeModel", "values", "[I", true)
  | 3 => ("ShapeJudgeModel", "many", "[I", true)
  | 4 => ("ShapeJudgeModel", "names", "[I", true)
  | 5 => ("ShapeJudgeModel", "tos", "[I", true)
  | 6 => ("ShapeJudgeModel", "isRead", "Z", false)
  | 7 => ("ShapeJudgeModel", "shapes", "I", false)
  | 8 => ("ShapeJudgeModel", "words", "[I", true)
  | 9 => ("ShapeJudgeModel", "closed", "[Z", true)
  | 10 => ("ShapeJudgeModel", "parts", "[I", true)
  | 11 => ("ShapeJudgeModel", "pName", "[I", true)
  | 12 => ("ShapeJudgeModel", "pTest", "[I", true)
  | 13 => ("ShapeJudgeModel", "pFirst", "[I", true)
  | 14 => ("ShapeJudgeModel", "pSecond", "[I", true)
  | 15 => ("ShapeJudgeModel", "size", "[I", true)
  | 16 => ("ShapeJudgeModel", "kind", "[I", true)
  | 17 => ("ShapeJudgeModel", "around", "[I", true)
  | 18 => ("ShapeJudgeModel", "least", "[I", true)
  | 19 => ("ShapeJudgeModel", "most", "[I", true)
  | 20 => ("ShapeJudgeModel", "partOf", "[I", true)
  | 21 => ("ShapeJudgeModel", "dShapes", "I", false)
  | 22 => ("ShapeJudgeModel", "dWords", "[I", true)
  | 23 => ("ShapeJudgeModel", "dClosed", "[Z", true)
  | 24 => ("ShapeJudgeModel", "dParts", "[I", true)
  | 25 => ("ShapeJudgeModel", "dName", "[I", true)
  | 26 => ("ShapeJudgeModel", "dTest", "[I", true)
  | 27 => ("ShapeJudgeModel", "dFirst", "[I", true)
  | 28 => ("ShapeJudgeModel", "dSecond", "[I", true)
  | 29 => ("ShapeJudgeModel", "dPlace", "[I", true)
  | 30 => ("ShapeJudgeModel", "dSize", "[I", true)
  | 31 => ("ShapeJudgeModel", "dKind", "[I", true)
  | 32 => ("ShapeJudgeModel", "dAround", "[I", true)
  | 33 => ("ShapeJudgeModel", "dLeast", "[I", true)
  | 34 => ("ShapeJudgeModel", "dMost", "[I", true)
  | 35 => ("ShapeJudgeModel", "dPartOf", "[I", true)
  | 36 => ("ShapeJudgeModel", "tape", "[I", true)
  | 37 => ("ShapeJudgeModel", "taped", "I", false)
  | 38 => ("ShapeJudgeModel", "at", "I", false)
  | 39 => ("ShapeJudgeModel", "from", "I", false)
  | 40 => ("ShapeJudgeModel", "sort", "I", false)
  | 41 => ("ShapeJudgeModel", "value", "I", false)
  | 42 => ("ShapeJudgeModel", "fault", "I", false)
  | 43 => ("ShapeJudgeModel", "wrongAt", "I", false)
  | 44 => ("ShapeJudgeModel", "takenAt", "I", false)
  | 45 => ("ShapeJudgeModel", "eachAt", "[I", true)
  | 46 => ("ShapeJudgeModel", "itemAt", "[I", true)
  | 47 => ("ShapeJudgeModel", "leads", "[Z", true)
  | 48 => ("ShapeJudgeModel", "fitting", "[Z", true)
  | 49 => ("ShapeJudgeModel", "sure", "[Z", true)
  | 50 => ("ShapeJudgeModel", "only", "[I", true)
  | 51 => ("ShapeJudgeModel", "sets", "[I", true)
  | 52 => ("ShapeJudgeModel", "ranks", "[I", true)
  | 53 => ("ShapeJudgeModel", "withoutMany", "I", false)
  | 54 => ("ShapeJudgeModel", "withoutSet", "I", false)
  | 55 => ("ShapeJudgeModel", "keptNames", "[I", true)
  | _ => ("ShapeJudgeModel", "keptTos", "[I", true)
def tyX7 : Nat → FieldType := fun k => match k with
  | 0 => .int
  | 1 => .array .boolean
  | 2 => .array .int
  | 3 => .array .int
  | 4 => .array .int
  | 5 => .array .int
  | 6 => .boolean
  | 7 => .int
  | 8 => .array .int
  | 9 => .array .boolean
  | 10 => .array .int
  | 11 => .array .int
  | 12 => .array .int
  | 13 => .array .int
  | 14 => .array .int
  | 15 => .array .int
  | 16 => .array .int
  | 17 => .array .int
  | 18 => .array .int
  | 19 => .array .int
  | 20 => .array .int
  | 21 => .int
  | 22 => .array .int
  | 23 => .array .boolean
  | 24 => .array .int
  | 25 => .array .int
  | 26 => .array .int
  | 27 => .array .int
  | 28 => .array .int
  | 29 => .array .int
  | 30 => .array .int
  | 31 => .array .int
  | 32 => .array .int
  | 33 => .array .int
  | 34 => .array .int
  | 35 => .array .int
  | 36 => .array .int
  | 37 => .int
  | 38 => .int
  | 39 => .int
  | 40 => .int
  | 41 => .int
  | 42 => .int
  | 43 => .int
  | 44 => .int
  | 45 => .array .int
  | 46 => .array .int
  | 47 => .array .boolean
  | 48 => .array .boolean
  | 49 => .array .boolean
  | 50 => .array .int
  | 51 => .array .int
  | 52 => .array .int
  | 53 => .int
  | 54 => .int
  | 55 => .array .int
  | _ => .array .int
abbrev wsX70 : List Cond := u_ws RX7 TX7 57
theorem nmX7 : ∀ a, a < 57 → ∀ b, b < 57 → a ≠ b → (TX7 a).2.1 ≠ (TX7 b).2.1 := by decide +kernel
theorem tyX7_ok : ∀ k, k < 57 → parseFieldDescriptor (TX7 k).2.2.1 = some (tyX7 k) := by decide +kernel
abbrev cX7_init : ByteArray := prog_9_method_1_code
def yX7_init : MethodName := ⟨RX7, "<init>", "()V"⟩
abbrev cX7_in : ByteArray := prog_9_method_3_code
def yX7_in : MethodName := ⟨RX7, "in", "(JJJ)Z"⟩
abbrev cX7_isNode : ByteArray := prog_9_method_4_code
def yX7_isNode : MethodName := ⟨RX7, "isNode", "(I)Z"⟩
abbrev cX7_node : ByteArray := prog_9_method_5_code
def yX7_node : MethodName := ⟨RX7, "node", "(ZI)I"⟩
abbrev cX7_value : ByteArray := prog_9_method_6_code
def yX7_value : MethodName := ⟨RX7, "value", "(IZI)I"⟩
abbrev cX7_edges : ByteArray := prog_9_method_7_code
def yX7_edges : MethodName := ⟨RX7, "edges", "()I"⟩
abbrev cX7_placeOf : ByteArray := prog_9_method_8_code
def yX7_placeOf : MethodName := ⟨RX7, "placeOf", "(III)I"⟩
abbrev cX7_isThere : ByteArray := prog_9_method_9_code
def yX7_isThere : MethodName := ⟨RX7, "isThere", "(III)Z"⟩
abbrev cX7_edge : ByteArray := prog_9_method_10_code
def yX7_edge : MethodName := ⟨RX7, "edge", "(III)I"⟩
abbrev cX7_cut : ByteArray := prog_9_method_11_code
def yX7_cut : MethodName := ⟨RX7, "cut", "(III)I"⟩
abbrev cX7_put : ByteArray := prog_9_method_12_code
def yX7_put : MethodName := ⟨RX7, "put", "(I)V"⟩
abbrev cX7_feed : ByteArray := prog_9_method_13_code
def yX7_feed : MethodName := ⟨RX7, "feed", "(IIIII)I"⟩
abbrev cX7_end : ByteArray := prog_9_method_14_code
def yX7_end : MethodName := ⟨RX7, "end", "(I)I"⟩
abbrev cX7_fails : ByteArray := prog_9_method_15_code
def yX7_fails : MethodName := ⟨RX7, "fails", "(II)V"⟩
abbrev cX7_look : ByteArray := prog_9_method_16_code
def yX7_look : MethodName := ⟨RX7, "look", "(I)I"⟩
abbrev cX7_isClosed : ByteArray := prog_9_method_17_code
def yX7_isClosed : MethodName := ⟨RX7, "isClosed", "()Z"⟩
abbrev cX7_isSign : ByteArray := prog_9_method_18_code
def yX7_isSign : MethodName := ⟨RX7, "isSign", "(I)Z"⟩
abbrev cX7_next : ByteArray := prog_9_method_19_code
def yX7_next : MethodName := ⟨RX7, "next", "()V"⟩
abbrev cX7_is : ByteArray := prog_9_method_20_code
def yX7_is : MethodName := ⟨RX7, "is", "(I)Z"⟩
abbrev cX7_taken : ByteArray := prog_9_method_21_code
def yX7_taken : MethodName := ⟨RX7, "taken", "(I)I"⟩
abbrev cX7_taken2 : ByteArray := prog_9_method_22_code
def yX7_taken2 : MethodName := ⟨RX7, "taken2", "(I)V"⟩
abbrev cX7_number : ByteArray := prog_9_method_23_code
def yX7_number : MethodName := ⟨RX7, "number", "(II)I"⟩
abbrev cX7_comes : ByteArray := prog_9_method_24_code
def yX7_comes : MethodName := ⟨RX7, "comes", "(II)I"⟩
abbrev cX7_readPart : ByteArray := prog_9_method_25_code
def yX7_readPart : MethodName := ⟨RX7, "readPart", "(I)V"⟩
abbrev cX7_readCount : ByteArray := prog_9_method_26_code
def yX7_readCount : MethodName := ⟨RX7, "readCount", "(I)V"⟩
abbrev cX7_readAny : ByteArray := prog_9_method_27_code
def yX7_readAny : MethodName := ⟨RX7, "readAny", "()V"⟩
abbrev cX7_readShape : ByteArray := prog_9_method_28_code
def yX7_readShape : MethodName := ⟨RX7, "readShape", "()V"⟩
abbrev cX7_wordAt : ByteArray := prog_9_method_29_code
def yX7_wordAt : MethodName := ⟨RX7, "wordAt", "(I)I"⟩
abbrev cX7_findLeads : ByteArray := prog_9_method_30_code
def yX7_findLeads : MethodName := ⟨RX7, "findLeads", "(Z)V"⟩
abbrev cX7_settleWords : ByteArray := prog_9_method_31_code
def yX7_settleWords : MethodName := ⟨RX7, "settleWords", "()V"⟩
abbrev cX7_shapes : ByteArray := prog_9_method_32_code
def yX7_shapes : MethodName := ⟨RX7, "shapes", "()I"⟩
abbrev cX7_fault : ByteArray := prog_9_method_33_code
def yX7_fault : MethodName := ⟨RX7, "fault", "()I"⟩
abbrev cX7_takes : ByteArray := prog_9_method_34_code
def yX7_takes : MethodName := ⟨RX7, "takes", "(IIIZ)Z"⟩
abbrev cX7_joined : ByteArray := prog_9_method_35_code
def yX7_joined : MethodName := ⟨RX7, "joined", "(II)I"⟩
abbrev cX7_counted : ByteArray := prog_9_method_36_code
def yX7_counted : MethodName := ⟨RX7, "counted", "(III)I"⟩
abbrev cX7_dealtTo : ByteArray := prog_9_method_37_code
def yX7_dealtTo : MethodName := ⟨RX7, "dealtTo", "(IIZ)I"⟩
abbrev cX7_isWanted : ByteArray := prog_9_method_38_code
def yX7_isWanted : MethodName := ⟨RX7, "isWanted", "(II)Z"⟩
abbrev cX7_wantedSet : ByteArray := prog_9_method_39_code
def yX7_wantedSet : MethodName := ⟨RX7, "wantedSet", "(II)I"⟩
abbrev cX7_can : ByteArray := prog_9_method_40_code
def yX7_can : MethodName := ⟨RX7, "can", "(IIZ)Z"⟩
abbrev cX7_findRanks : ByteArray := prog_9_method_41_code
def yX7_findRanks : MethodName := ⟨RX7, "findRanks", "()V"⟩
abbrev cX7_free : ByteArray := prog_9_method_42_code
def yX7_free : MethodName := ⟨RX7, "free", "()V"⟩
abbrev cX7_changes : ByteArray := prog_9_method_43_code
def yX7_changes : MethodName := ⟨RX7, "changes", "(IZ)Z"⟩
abbrev cX7_read : ByteArray := prog_9_method_44_code
def yX7_read : MethodName := ⟨RX7, "read", "()V"⟩
abbrev cX7_isShape : ByteArray := prog_9_method_45_code
def yX7_isShape : MethodName := ⟨RX7, "isShape", "(I)Z"⟩
abbrev cX7_areBoth : ByteArray := prog_9_method_46_code
def yX7_areBoth : MethodName := ⟨RX7, "areBoth", "(II)Z"⟩
abbrev cX7_fits : ByteArray := prog_9_method_47_code
def yX7_fits : MethodName := ⟨RX7, "fits", "(II)I"⟩
abbrev cX7_surely : ByteArray := prog_9_method_48_code
def yX7_surely : MethodName := ⟨RX7, "surely", "(II)I"⟩
abbrev cX7_all : ByteArray := prog_9_method_49_code
def yX7_all : MethodName := ⟨RX7, "all", "(I)I"⟩
abbrev cX7_wanted : ByteArray := prog_9_method_50_code
def yX7_wanted : MethodName := ⟨RX7, "wanted", "(II)I"⟩
abbrev cX7_dealt : ByteArray := prog_9_method_51_code
def yX7_dealt : MethodName := ⟨RX7, "dealt", "(III)I"⟩
abbrev cX7_without : ByteArray := prog_9_method_52_code
def yX7_without : MethodName := ⟨RX7, "without", "(II)V"⟩
abbrev cX7_bits : ByteArray := prog_9_method_53_code
def yX7_bits : MethodName := ⟨RX7, "bits", "(I)I"⟩
abbrev cX7_tooMany : ByteArray := prog_9_method_54_code
def yX7_tooMany : MethodName := ⟨RX7, "tooMany", "(II)I"⟩
abbrev cX7_which : ByteArray := prog_9_method_55_code
def yX7_which : MethodName := ⟨RX7, "which", "(II)I"⟩
abbrev cX7_depends : ByteArray := prog_9_method_56_code
def yX7_depends : MethodName := ⟨RX7, "depends", "(II)I"⟩
abbrev cX7_part : ByteArray := prog_9_method_57_code
def yX7_part : MethodName := ⟨RX7, "part", "(III)I"⟩
abbrev cX7_told : ByteArray := prog_9_method_58_code
def yX7_told : MethodName := ⟨RX7, "told", "(II)I"⟩
abbrev cX7_from : ByteArray := prog_9_method_59_code
def yX7_from : MethodName := ⟨RX7, "from", "(III)I"⟩
abbrev cX7_reset : ByteArray := prog_9_method_60_code
def yX7_reset : MethodName := ⟨RX7, "reset", "()I"⟩
abbrev cX7_count : ByteArray := prog_9_method_61_code
def yX7_count : MethodName := ⟨RX7, "count", "(I)I"⟩
def RJ6 : String := "java/lang/Integer"
def TJ6 : u_T := fun k => match k with
  | _ => ("", "", "", false)
def tyJ6 : Nat → FieldType := fun k => match k with
  | _ => .int
abbrev wsJ60 : List Cond := u_ws RJ6 TJ6 0
theorem nmJ6 : ∀ a, a < 0 → ∀ b, b < 0 → a ≠ b → (TJ6 a).2.1 ≠ (TJ6 b).2.1 := by decide +kernel
theorem tyJ6_ok : ∀ k, k < 0 → parseFieldDescriptor (TJ6 k).2.2.1 = some (tyJ6 k) := by decide +kernel
abbrev cJ6_bitCount_0f7a4 : ByteArray := prog_10_method_49_code
def yJ6_bitCount_0f7a4 : MethodName := ⟨RJ6, "bitCount", "(I)I"⟩
def RJ9 : String := "java/lang/Math"
def TJ9 : u_T := fun k => match k with
  | _ => ("", "", "", false)
def tyJ9 : Nat → FieldType := fun k => match k with
  | _ => .int
abbrev wsJ90 : List Cond := u_ws RJ9 TJ9 0
theorem nmJ9 : ∀ a, a < 0 → ∀ b, b < 0 → a ≠ b → (TJ9 a).2.1 ≠ (TJ9 b).2.1 := by decide +kernel
theorem tyJ9_ok : ∀ k, k < 0 → parseFieldDescriptor (TJ9 k).2.2.1 = some (tyJ9 k) := by decide +kernel
abbrev cJ9_max_7cf53 : ByteArray := prog_11_method_65_code
def yJ9_max_7cf53 : MethodName := ⟨RJ9, "max", "(II)I"⟩
def RJ0 : String := "java/lang/String"
def TJ0 : u_T := fun k => match k with
  | _ => ("", "", "", false)
def tyJ0 : Nat → FieldType := fun k => match k with
  | _ => .int
abbrev wsJ00 : List Cond := u_ws RJ0 TJ0 0
theorem nmJ0 : ∀ a, a < 0 → ∀ b, b < 0 → a ≠ b → (TJ0 a).2.1 ≠ (TJ0 b).2.1 := by decide +kernel
theorem tyJ0_ok : ∀ k, k < 0 → parseFieldDescriptor (TJ0 k).2.2.1 = some (tyJ0 k) := by decide +kernel
abbrev cJ0_length_8abf5 : ByteArray := prog_12_method_54_code
def yJ0_length_8abf5 : MethodName := ⟨RJ0, "length", "()I"⟩
abbrev cJ0_charAt_5068e : ByteArray := prog_12_method_56_code
def yJ0_charAt_5068e : MethodName := ⟨RJ0, "charAt", "(I)C"⟩
abbrev cJ0_coder_7d493 : ByteArray := prog_12_method_152_code
def yJ0_coder_7d493 : MethodName := ⟨RJ0, "coder", "()B"⟩
abbrev cJ0_isLatin1_aae02 : ByteArray := prog_12_method_154_code
def yJ0_isLatin1_aae02 : MethodName := ⟨RJ0, "isLatin1", "()Z"⟩
abbrev cJ0_checkIndex_df160 : ByteArray := prog_12_method_155_code
def yJ0_checkIndex_df160 : MethodName := ⟨RJ0, "checkIndex", "(II)V"⟩
def RJ1 : String := "java/lang/StringLatin1"
def TJ1 : u_T := fun k => match k with
  | _ => ("", "", "", false)
def tyJ1 : Nat → FieldType := fun k => match k with
  | _ => .int
abbrev wsJ10 : List Cond := u_ws RJ1 TJ1 0
theorem nmJ1 : ∀ a, a < 0 → ∀ b, b < 0 → a ≠ b → (TJ1 a).2.1 ≠ (TJ1 b).2.1 := by decide +kernel
theorem tyJ1_ok : ∀ k, k < 0 → parseFieldDescriptor (TJ1 k).2.2.1 = some (tyJ1 k) := by decide +kernel
abbrev cJ1_charAt_3b067 : ByteArray := prog_13_method_2_code
def yJ1_charAt_3b067 : MethodName := ⟨RJ1, "charAt", "([BI)C"⟩
def RJ2 : String := "java/lang/StringUTF16"
def TJ2 : u_T := fun k => match k with
  | _ => ("", "", "", false)
def tyJ2 : Nat → FieldType := fun k => match k with
  | _ => .int
abbrev wsJ20 : List Cond := u_ws RJ2 TJ2 0
theorem nmJ2 : ∀ a, a < 0 → ∀ b, b < 0 → a ≠ b → (TJ2 a).2.1 ≠ (TJ2 b).2.1 := by decide +kernel
theorem tyJ2_ok : ∀ k, k < 0 → parseFieldDescriptor (TJ2 k).2.2.1 = some (tyJ2 k) := by decide +kernel
abbrev cJ2_getChar_3b067 : ByteArray := prog_14_method_5_code
def yJ2_getChar_3b067 : MethodName := ⟨RJ2, "getChar", "([BI)C"⟩
abbrev cJ2_length_9d52b : ByteArray := prog_14_method_6_code
def yJ2_length_9d52b : MethodName := ⟨RJ2, "length", "([B)I"⟩
abbrev cJ2_charAt_3b067 : ByteArray := prog_14_method_83_code
def yJ2_charAt_3b067 : MethodName := ⟨RJ2, "charAt", "([BI)C"⟩
abbrev cJ2_checkIndex_2214a : ByteArray := prog_14_method_91_code
def yJ2_checkIndex_2214a : MethodName := ⟨RJ2, "checkIndex", "(I[B)V"⟩
def RJ3 : String := "jdk/internal/util/Preconditions"
def TJ3 : u_T := fun k => match k with
  | _ => ("", "", "", false)
def tyJ3 : Nat → FieldType := fun k => match k with
  | _ => .int
abbrev wsJ30 : List Cond := u_ws RJ3 TJ3 0
theorem nmJ3 : ∀ a, a < 0 → ∀ b, b < 0 → a ≠ b → (TJ3 a).2.1 ≠ (TJ3 b).2.1 := by decide +kernel
theorem tyJ3_ok : ∀ k, k < 0 → parseFieldDescriptor (TJ3 k).2.2.1 = some (tyJ3 k) := by decide +kernel
abbrev cJ3_checkIndex_8e157 : ByteArray := prog_15_method_11_code
def yJ3_checkIndex_8e157 : MethodName := ⟨RJ3, "checkIndex", "(IILjava/util/function/BiFunction;)I"⟩
def RL : String := "ShapeJudgeLaw"
def yL_law : MethodName := ⟨RL, "law", "([I)Z"⟩
def wsX0_init : List Cond := .code yX0_init cX0_init 1 none :: ([.methodLink RX0 3 objectInit, .instanceMethod objectInit, .code objectInit ⟨#[0xb1]⟩ 1 none, .arrayClass .int, .fieldLink RX0 9 "ShapeJudge$Book" "word" "[I", .fieldLink RX0 15 "ShapeJudge$Book" "partCount" "[I", .arrayClass .boolean, .fieldLink RX0 18 "ShapeJudge$Book" "closed" "[Z", .fieldLink RX0 22 "ShapeJudge$Book" "names" "[I", .fieldLink RX0 25 "ShapeJudge$Book" "reach" "[I", .fieldLink RX0 28 "ShapeJudge$Book" "level" "[I", .fieldLink RX0 31 "ShapeJudge$Book" "firstStep" "[I", .fieldLink RX0 34 "ShapeJudge$Book" "steps" "[I", .fieldLink RX0 37 "ShapeJudge$Book" "partName" "[I", .fieldLink RX0 40 "ShapeJudge$Book" "partTest" "[I", .fieldLink RX0 43 "ShapeJudge$Book" "partFirst" "[I", .fieldLink RX0 46 "ShapeJudge$Book" "partSecond" "[I", .fieldLink RX0 49 "ShapeJudge$Book" "partPlace" "[I"] ++ wsX00)
def wsX0_hasShape : List Cond := .code yX0_hasShape cX0_hasShape 2 (some .boolean) :: ([.fieldLink RX0 52 "ShapeJudge$Book" "shapeCount" "I"] ++ wsX00)
def wsX0_hasPart : List Cond := .code yX0_hasPart cX0_hasPart 3 (some .boolean) :: ([.fieldLink RX0 15 "ShapeJudge$Book" "partCount" "[I", .methodLink RX0 56 yX0_hasShape, .instanceMethod yX0_hasShape, .selects RX0 yX0_hasShape yX0_hasShape, .initialized RX0, .code yX0_hasShape cX0_hasShape 2 (some .boolean), .fieldLink RX0 52 "ShapeJudge$Book" "shapeCount" "I"] ++ wsX00)
def wsX0_shapeOf : List Cond := .code yX0_shapeOf cX0_shapeOf 3 (some .int) :: ([.fieldLink RX0 52 "ShapeJudge$Book" "shapeCount" "I", .fieldLink RX0 9 "ShapeJudge$Book" "word" "[I"] ++ wsX00)
def wsX0_clear : List Cond := .code yX0_clear cX0_clear 1 none :: ([.fieldLink RX0 52 "ShapeJudge$Book" "shapeCount" "I", .fieldLink RX0 60 "ShapeJudge$Book" "stepCount" "I", .fieldLink RX0 63 "ShapeJudge$Book" "lastSlot" "I", .fieldLink RX0 31 "ShapeJudge$Book" "firstStep" "[I"] ++ wsX00)
def wsX0_openShape : List Cond := .code yX0_openShape cX0_openShape 3 none :: ([.fieldLink RX0 52 "ShapeJudge$Book" "shapeCount" "I", .fieldLink RX0 9 "ShapeJudge$Book" "word" "[I", .fieldLink RX0 15 "ShapeJudge$Book" "partCount" "[I", .fieldLink RX0 18 "ShapeJudge$Book" "closed" "[Z", .fieldLink RX0 22 "ShapeJudge$Book" "names" "[I", .fieldLink RX0 25 "ShapeJudge$Book" "reach" "[I", .fieldLink RX0 28 "ShapeJudge$Book" "level" "[I", .fieldLink RX0 31 "ShapeJudge$Book" "firstStep" "[I", .fieldLink RX0 60 "ShapeJudge$Book" "stepCount" "I"] ++ wsX00)
def wsX0_closeShape : List Cond := .code yX0_closeShape cX0_closeShape 1 none :: ([.fieldLink RX0 52 "ShapeJudge$Book" "shapeCount" "I", .fieldLink RX0 18 "ShapeJudge$Book" "closed" "[Z", .methodLink RX0 56 yX0_hasShape, .instanceMethod yX0_hasShape, .selects RX0 yX0_hasShape yX0_hasShape, .initialized RX0, .code yX0_hasShape cX0_hasShape 2 (some .boolean)] ++ wsX00)
def wsX0_hasRoomForPart : List Cond := .code yX0_hasRoomForPart cX0_hasRoomForPart 1 (some .boolean) :: ([.fieldLink RX0 52 "ShapeJudge$Book" "shapeCount" "I", .fieldLink RX0 15 "ShapeJudge$Book" "partCount" "[I", .methodLink RX0 56 yX0_hasShape, .instanceMethod yX0_hasShape, .selects RX0 yX0_hasShape yX0_hasShape, .initialized RX0, .code yX0_hasShape cX0_hasShape 2 (some .boolean)] ++ wsX00)
def wsX0_addStep : List Cond := .code yX0_addStep cX0_addStep 3 none :: ([.fieldLink RX0 60 "ShapeJudge$Book" "stepCount" "I", .fieldLink RX0 34 "ShapeJudge$Book" "steps" "[I", .fieldLink RX0 52 "ShapeJudge$Book" "shapeCount" "I", .fieldLink RX0 31 "ShapeJudge$Book" "firstStep" "[I", .methodLink RX0 56 yX0_hasShape, .instanceMethod yX0_hasShape, .selects RX0 yX0_hasShape yX0_hasShape, .initialized RX0, .code yX0_hasShape cX0_hasShape 2 (some .boolean)] ++ wsX00)
def wsX0_addPart : List Cond := .code yX0_addPart cX0_addPart 4 none :: ([.fieldLink RX0 52 "ShapeJudge$Book" "shapeCount" "I", .fieldLink RX0 15 "ShapeJudge$Book" "partCount" "[I", .fieldLink RX0 63 "ShapeJudge$Book" "lastSlot" "I", .fieldLink RX0 37 "ShapeJudge$Book" "partName" "[I", .fieldLink RX0 22 "ShapeJudge$Book" "names" "[I", .methodLink RX0 66 yX0_hasRoomForPart, .instanceMethod yX0_hasRoomForPart, .selects RX0 yX0_hasRoomForPart yX0_hasRoomForPart, .initialized RX0, .code yX0_hasRoomForPart cX0_hasRoomForPart 1 (some .boolean), .methodLink RX0 56 yX0_hasShape, .instanceMethod yX0_hasShape, .selects RX0 yX0_hasShape yX0_hasShape, .code yX0_hasShape cX0_hasShape 2 (some .boolean), .methodLink RX0 70 yX0_addStep, .instanceMethod yX0_addStep, .selects RX0 yX0_addStep yX0_addStep, .code yX0_addStep cX0_addStep 3 none, .fieldLink RX0 60 "ShapeJudge$Book" "stepCount" "I", .fieldLink RX0 34 "ShapeJudge$Book" "steps" "[I", .fieldLink RX0 31 "ShapeJudge$Book" "firstStep" "[I"] ++ wsX00)
def wsX0_tellPart : List Cond := .code yX0_tellPart cX0_tellPart 5 none :: ([.fieldLink RX0 40 "ShapeJudge$Book" "partTest" "[I", .fieldLink RX0 63 "ShapeJudge$Book" "lastSlot" "I", .fieldLink RX0 43 "ShapeJudge$Book" "partFirst" "[I", .fieldLink RX0 46 "ShapeJudge$Book" "partSecond" "[I", .fieldLink RX0 49 "ShapeJudge$Book" "partPlace" "[I"] ++ wsX00)
def wsX0_refers : List Cond := .code yX0_refers cX0_refers 2 (some .boolean) :: ([.fieldLink RX0 40 "ShapeJudge$Book" "partTest" "[I"] ++ wsX00)
def wsX0_linkReferences : List Cond := .code yX0_linkReferences cX0_linkReferences 5 (some .int) :: ([.fieldLink RX0 52 "ShapeJudge$Book" "shapeCount" "I", .fieldLink RX0 15 "ShapeJudge$Book" "partCount" "[I", .fieldLink RX0 43 "ShapeJudge$Book" "partFirst" "[I", .fieldLink RX0 49 "ShapeJudge$Book" "partPlace" "[I", .fieldLink RX0 25 "ShapeJudge$Book" "reach" "[I", .methodLink RX0 74 yX0_refers, .instanceMethod yX0_refers, .selects RX0 yX0_refers yX0_refers, .initialized RX0, .code yX0_refers cX0_refers 2 (some .boolean), .fieldLink RX0 40 "ShapeJudge$Book" "partTest" "[I", .methodLink RX0 77 yX0_shapeOf, .instanceMethod yX0_shapeOf, .selects RX0 yX0_shapeOf yX0_shapeOf, .code yX0_shapeOf cX0_shapeOf 3 (some .int), .fieldLink RX0 9 "ShapeJudge$Book" "word" "[I"] ++ wsX00)
def wsX0_findReach : List Cond := .code yX0_findReach cX0_findReach 3 none :: ([.fieldLink RX0 52 "ShapeJudge$Book" "shapeCount" "I", .fieldLink RX0 25 "ShapeJudge$Book" "reach" "[I"] ++ wsX00)
def wsX0_dependsOn : List Cond := .code yX0_dependsOn cX0_dependsOn 3 (some .boolean) :: ([.fieldLink RX0 25 "ShapeJudge$Book" "reach" "[I", .methodLink RX0 56 yX0_hasShape, .instanceMethod yX0_hasShape, .selects RX0 yX0_hasShape yX0_hasShape, .initialized RX0, .code yX0_hasShape cX0_hasShape 2 (some .boolean), .fieldLink RX0 52 "ShapeJudge$Book" "shapeCount" "I"] ++ wsX00)
def wsX0_placeOfCircle : List Cond := .code yX0_placeOfCircle cX0_placeOfCircle 4 (some .int) :: ([.fieldLink RX0 52 "ShapeJudge$Book" "shapeCount" "I", .fieldLink RX0 15 "ShapeJudge$Book" "partCount" "[I", .fieldLink RX0 40 "ShapeJudge$Book" "partTest" "[I", .fieldLink RX0 43 "ShapeJudge$Book" "partFirst" "[I", .fieldLink RX0 49 "ShapeJudge$Book" "partPlace" "[I", .methodLink RX0 81 yX0_dependsOn, .instanceMethod yX0_dependsOn, .selects RX0 yX0_dependsOn yX0_dependsOn, .initialized RX0, .code yX0_dependsOn cX0_dependsOn 3 (some .boolean), .fieldLink RX0 25 "ShapeJudge$Book" "reach" "[I", .methodLink RX0 56 yX0_hasShape, .instanceMethod yX0_hasShape, .selects RX0 yX0_hasShape yX0_hasShape, .code yX0_hasShape cX0_hasShape 2 (some .boolean)] ++ wsX00)
def wsX0_raiseLevel : List Cond := .code yX0_raiseLevel cX0_raiseLevel 5 none :: ([.fieldLink RX0 15 "ShapeJudge$Book" "partCount" "[I", .fieldLink RX0 43 "ShapeJudge$Book" "partFirst" "[I", .fieldLink RX0 28 "ShapeJudge$Book" "level" "[I", .fieldLink RX0 40 "ShapeJudge$Book" "partTest" "[I", .methodLink RX0 89 Lib.Math.max.name, .static Lib.Math.max.name, .initialized "java/lang/Math", .code Lib.Math.max.name Lib.Math.max.code 2 (some .int), .methodLink RX0 74 yX0_refers, .instanceMethod yX0_refers, .selects RX0 yX0_refers yX0_refers, .initialized RX0, .code yX0_refers cX0_refers 2 (some .boolean), .methodLink RX0 56 yX0_hasShape, .instanceMethod yX0_hasShape, .selects RX0 yX0_hasShape yX0_hasShape, .code yX0_hasShape cX0_hasShape 2 (some .boolean), .fieldLink RX0 52 "ShapeJudge$Book" "shapeCount" "I"] ++ wsX00)
def wsX0_findLevels : List Cond := .code yX0_findLevels cX0_findLevels 3 none :: ([.fieldLink RX0 52 "ShapeJudge$Book" "shapeCount" "I", .methodLink RX0 85 yX0_raiseLevel, .instanceMethod yX0_raiseLevel, .selects RX0 yX0_raiseLevel yX0_raiseLevel, .initialized RX0, .code yX0_raiseLevel cX0_raiseLevel 5 none, .fieldLink RX0 15 "ShapeJudge$Book" "partCount" "[I", .fieldLink RX0 43 "ShapeJudge$Book" "partFirst" "[I", .fieldLink RX0 28 "ShapeJudge$Book" "level" "[I", .fieldLink RX0 40 "ShapeJudge$Book" "partTest" "[I", .methodLink RX0 89 Lib.Math.max.name, .static Lib.Math.max.name, .initialized "java/lang/Math", .code Lib.Math.max.name Lib.Math.max.code 2 (some .int), .methodLink RX0 74 yX0_refers, .instanceMethod yX0_refers, .selects RX0 yX0_refers yX0_refers, .code yX0_refers cX0_refers 2 (some .boolean), .methodLink RX0 56 yX0_hasShape, .instanceMethod yX0_hasShape, .selects RX0 yX0_hasShape yX0_hasShape, .code yX0_hasShape cX0_hasShape 2 (some .boolean)] ++ wsX00)
def wsX1_init : List Cond := .code yX1_init cX1_init 1 none :: ([.methodLink RX1 3 objectInit, .instanceMethod objectInit, .code objectInit ⟨#[0xb1]⟩ 1 none, .arrayClass .boolean, .fieldLink RX1 9 "ShapeJudge$Graph" "valued" "[Z", .arrayClass .int, .fieldLink RX1 15 "ShapeJudge$Graph" "values" "[I", .fieldLink RX1 19 "ShapeJudge$Graph" "degrees" "[I", .fieldLink RX1 22 "ShapeJudge$Graph" "edgeName" "[I", .fieldLink RX1 25 "ShapeJudge$Graph" "edgeTo" "[I"] ++ wsX10)
def wsX1_hasNode : List Cond := .code yX1_hasNode cX1_hasNode 2 (some .boolean) :: ([.fieldLink RX1 28 "ShapeJudge$Graph" "nodes" "I"] ++ wsX10)
def wsX1_hasEdge : List Cond := .code yX1_hasEdge cX1_hasEdge 3 (some .boolean) :: ([.fieldLink RX1 19 "ShapeJudge$Graph" "degrees" "[I"] ++ wsX10)
def wsX1_canBeEdge : List Cond := .code yX1_canBeEdge cX1_canBeEdge 4 (some .boolean) :: ([.methodLink RX1 32 yX1_hasNode, .instanceMethod yX1_hasNode, .selects RX1 yX1_hasNode yX1_hasNode, .initialized RX1, .code yX1_hasNode cX1_hasNode 2 (some .boolean), .fieldLink RX1 28 "ShapeJudge$Graph" "nodes" "I"] ++ wsX10)
def wsX1_clear : List Cond := .code yX1_clear cX1_clear 1 none :: ([.fieldLink RX1 28 "ShapeJudge$Graph" "nodes" "I", .fieldLink RX1 36 "ShapeJudge$Graph" "edges" "I"] ++ wsX10)
def wsX1_setValue : List Cond := .code yX1_setValue cX1_setValue 4 none :: ([.fieldLink RX1 9 "ShapeJudge$Graph" "valued" "[Z", .fieldLink RX1 15 "ShapeJudge$Graph" "values" "[I"] ++ wsX10)
def wsX1_addNode : List Cond := .code yX1_addNode cX1_addNode 4 (some .int) :: ([.fieldLink RX1 28 "ShapeJudge$Graph" "nodes" "I", .fieldLink RX1 19 "ShapeJudge$Graph" "degrees" "[I", .methodLink RX1 39 yX1_setValue, .instanceMethod yX1_setValue, .selects RX1 yX1_setValue yX1_setValue, .initialized RX1, .code yX1_setValue cX1_setValue 4 none, .fieldLink RX1 9 "ShapeJudge$Graph" "valued" "[Z", .fieldLink RX1 15 "ShapeJudge$Graph" "values" "[I"] ++ wsX10)
def wsX1_placeOf : List Cond := .code yX1_placeOf cX1_placeOf 6 (some .int) :: ([.fieldLink RX1 19 "ShapeJudge$Graph" "degrees" "[I", .fieldLink RX1 22 "ShapeJudge$Graph" "edgeName" "[I", .fieldLink RX1 25 "ShapeJudge$Graph" "edgeTo" "[I"] ++ wsX10)
def wsX1_isAhead : List Cond := .code yX1_isAhead cX1_isAhead 4 (some .boolean) :: ([.fieldLink RX1 22 "ShapeJudge$Graph" "edgeName" "[I", .fieldLink RX1 25 "ShapeJudge$Graph" "edgeTo" "[I"] ++ wsX10)
def wsX1_addEdge : List Cond := .code yX1_addEdge cX1_addEdge 6 none :: ([.fieldLink RX1 19 "ShapeJudge$Graph" "degrees" "[I", .fieldLink RX1 22 "ShapeJudge$Graph" "edgeName" "[I", .fieldLink RX1 25 "ShapeJudge$Graph" "edgeTo" "[I", .fieldLink RX1 36 "ShapeJudge$Graph" "edges" "I", .methodLink RX1 43 yX1_isAhead, .instanceMethod yX1_isAhead, .selects RX1 yX1_isAhead yX1_isAhead, .initialized RX1, .code yX1_isAhead cX1_isAhead 4 (some .boolean)] ++ wsX10)
def wsX1_removeEdge : List Cond := .code yX1_removeEdge cX1_removeEdge 5 none :: ([.fieldLink RX1 19 "ShapeJudge$Graph" "degrees" "[I", .fieldLink RX1 22 "ShapeJudge$Graph" "edgeName" "[I", .fieldLink RX1 25 "ShapeJudge$Graph" "edgeTo" "[I", .fieldLink RX1 36 "ShapeJudge$Graph" "edges" "I"] ++ wsX10)
def wsX2_init : List Cond := .code yX2_init cX2_init 4 none :: ([.methodLink RX2 3 objectInit, .instanceMethod objectInit, .code objectInit ⟨#[0xb1]⟩ 1 none, .arrayClass .int, .fieldLink RX2 9 "ShapeJudge$Judge" "fitting" "[I", .fieldLink RX2 15 "ShapeJudge$Judge" "sure" "[I", .fieldLink RX2 18 "ShapeJudge$Judge" "allowed" "[I", .fieldLink RX2 21 "ShapeJudge$Judge" "stack" "[I", .fieldLink RX2 24 "ShapeJudge$Judge" "graph" "LShapeJudge$Graph;", .fieldLink RX2 28 "ShapeJudge$Judge" "book" "LShapeJudge$Book;"] ++ wsX20)
def wsX2_forget : List Cond := .code yX2_forget cX2_forget 1 none :: ([.fieldLink RX2 35 "ShapeJudge$Judge" "fittingIsRead" "Z", .fieldLink RX2 39 "ShapeJudge$Judge" "sureIsRead" "Z"] ++ wsX20)
def wsX2_follow : List Cond := .code yX2_follow cX2_follow 2 none :: ([.fieldLink RX2 28 "ShapeJudge$Judge" "book" "LShapeJudge$Book;", .methodLink RX2 32 yX2_forget, .instanceMethod yX2_forget, .selects RX2 yX2_forget yX2_forget, .initialized RX2, .code yX2_forget cX2_forget 1 none, .fieldLink RX2 35 "ShapeJudge$Judge" "fittingIsRead" "Z", .fieldLink RX2 39 "ShapeJudge$Judge" "sureIsRead" "Z"] ++ wsX20)
def wsX2_presentEdges : List Cond := .code yX2_presentEdges cX2_presentEdges 3 (some .int) :: ([.fieldLink RX2 24 "ShapeJudge$Judge" "graph" "LShapeJudge$Graph;", .fieldLink RX2 71 "ShapeJudge$Graph" "degrees" "[I", .fieldLink RX2 74 "ShapeJudge$Judge" "thinNode" "I", .fieldLink RX2 77 "ShapeJudge$Judge" "goneEdges" "I"] ++ wsX20 ++ wsX10)
def wsX2_wantedEdges : List Cond := .code yX2_wantedEdges cX2_wantedEdges 5 (some .int) :: ([.fieldLink RX2 24 "ShapeJudge$Judge" "graph" "LShapeJudge$Graph;", .fieldLink RX2 71 "ShapeJudge$Graph" "degrees" "[I", .fieldLink RX2 28 "ShapeJudge$Judge" "book" "LShapeJudge$Book;", .fieldLink RX2 80 "ShapeJudge$Book" "names" "[I", .fieldLink RX2 83 "ShapeJudge$Graph" "edgeName" "[I", .methodLink RX2 86 yX2_presentEdges, .instanceMethod yX2_presentEdges, .selects RX2 yX2_presentEdges yX2_presentEdges, .initialized RX2, .code yX2_presentEdges cX2_presentEdges 3 (some .int), .fieldLink RX2 74 "ShapeJudge$Judge" "thinNode" "I", .fieldLink RX2 77 "ShapeJudge$Judge" "goneEdges" "I"] ++ wsX20 ++ wsX10 ++ wsX00)
def wsX2_passes : List Cond := .code yX2_passes cX2_passes 5 (some .boolean) :: ([.fieldLink RX2 28 "ShapeJudge$Judge" "book" "LShapeJudge$Book;", .fieldLink RX2 129 "ShapeJudge$Book" "partFirst" "[I", .fieldLink RX2 132 "ShapeJudge$Book" "partTest" "[I", .fieldLink RX2 9 "ShapeJudge$Judge" "fitting" "[I", .fieldLink RX2 24 "ShapeJudge$Judge" "graph" "LShapeJudge$Graph;", .fieldLink RX2 135 "ShapeJudge$Graph" "valued" "[Z", .fieldLink RX2 138 "ShapeJudge$Graph" "values" "[I", .fieldLink RX2 141 "ShapeJudge$Book" "partSecond" "[I"] ++ wsX20 ++ wsX00 ++ wsX10)
def wsX2_setsTaken : List Cond := .code yX2_setsTaken cX2_setsTaken 9 (some .int) :: ([.fieldLink RX2 24 "ShapeJudge$Judge" "graph" "LShapeJudge$Graph;", .fieldLink RX2 71 "ShapeJudge$Graph" "degrees" "[I", .fieldLink RX2 18 "ShapeJudge$Judge" "allowed" "[I", .fieldLink RX2 83 "ShapeJudge$Graph" "edgeName" "[I", .fieldLink RX2 28 "ShapeJudge$Judge" "book" "LShapeJudge$Book;", .fieldLink RX2 120 "ShapeJudge$Book" "partName" "[I", .fieldLink RX2 123 "ShapeJudge$Graph" "edgeTo" "[I", .methodLink RX2 86 yX2_presentEdges, .instanceMethod yX2_presentEdges, .selects RX2 yX2_presentEdges yX2_presentEdges, .initialized RX2, .code yX2_presentEdges cX2_presentEdges 3 (some .int), .fieldLink RX2 74 "ShapeJudge$Judge" "thinNode" "I", .fieldLink RX2 77 "ShapeJudge$Judge" "goneEdges" "I", .methodLink RX2 126 yX2_passes, .instanceMethod yX2_passes, .selects RX2 yX2_passes yX2_passes, .code yX2_passes cX2_passes 5 (some .boolean), .fieldLink RX2 129 "ShapeJudge$Book" "partFirst" "[I", .fieldLink RX2 132 "ShapeJudge$Book" "partTest" "[I", .fieldLink RX2 9 "ShapeJudge$Judge" "fitting" "[I", .fieldLink RX2 135 "ShapeJudge$Graph" "valued" "[Z", .fieldLink RX2 138 "ShapeJudge$Graph" "values" "[I", .fieldLink RX2 141 "ShapeJudge$Book" "partSecond" "[I"] ++ wsX20 ++ wsX10 ++ wsX00)
def wsX2_both : List Cond := .code yX2_both cX2_both 4 (some .int) :: ([.fieldLink RX2 117 "ShapeJudge$Judge" "APART" "[I"])
def wsX2_times : List Cond := .code yX2_times cX2_times 8 (some .int) :: ([.methodLink RX2 114 yX2_both, .static yX2_both, .initialized RX2, .code yX2_both cX2_both 4 (some .int), .fieldLink RX2 117 "ShapeJudge$Judge" "APART" "[I"])
def wsX2_setsDealt_r1 : List Cond := [Cond.fieldLink RX2 28 "ShapeJudge$Judge" "book" "LShapeJudge$Book;", Cond.fieldLink RX2 102 "ShapeJudge$Book" "firstStep" "[I", Cond.fieldLink RX2 105 "ShapeJudge$Book" "steps" "[I", Cond.fieldLink RX2 21 "ShapeJudge$Judge" "stack" "[I", Cond.methodLink RX2 108 yX2_setsTaken, Cond.instanceMethod yX2_setsTaken, Cond.selects RX2 yX2_setsTaken yX2_setsTaken, Cond.initialized RX2, Cond.code yX2_setsTaken cX2_setsTaken 9 (some .int), Cond.fieldLink RX2 24 "ShapeJudge$Judge" "graph" "LShapeJudge$Graph;", Cond.fieldLink RX2 71 "ShapeJudge$Graph" "degrees" "[I", Cond.fieldLink RX2 18 "ShapeJudge$Judge" "allowed" "[I", Cond.fieldLink RX2 83 "ShapeJudge$Graph" "edgeName" "[I", Cond.fieldLink RX2 120 "ShapeJudge$Book" "partName" "[I", Cond.fieldLink RX2 123 "ShapeJudge$Graph" "edgeTo" "[I", Cond.methodLink RX2 86 yX2_presentEdges, Cond.instanceMethod yX2_presentEdges, Cond.selects RX2 yX2_presentEdges yX2_presentEdges, Cond.code yX2_presentEdges cX2_presentEdges 3 (some .int), Cond.fieldLink RX2 74 "ShapeJudge$Judge" "thinNode" "I", Cond.fieldLink RX2 77 "ShapeJudge$Judge" "goneEdges" "I", Cond.methodLink RX2 126 yX2_passes, Cond.instanceMethod yX2_passes, Cond.selects RX2 yX2_passes yX2_passes]
def wsX2_setsDealt_r2 : List Cond := [Cond.code yX2_passes cX2_passes 5 (some .boolean), Cond.fieldLink RX2 129 "ShapeJudge$Book" "partFirst" "[I", Cond.fieldLink RX2 132 "ShapeJudge$Book" "partTest" "[I", Cond.fieldLink RX2 9 "ShapeJudge$Judge" "fitting" "[I", Cond.fieldLink RX2 135 "ShapeJudge$Graph" "valued" "[Z", Cond.fieldLink RX2 138 "ShapeJudge$Graph" "values" "[I", Cond.fieldLink RX2 141 "ShapeJudge$Book" "partSecond" "[I", Cond.methodLink RX2 111 yX2_times, Cond.instanceMethod yX2_times, Cond.selects RX2 yX2_times yX2_times, Cond.code yX2_times cX2_times 8 (some .int), Cond.methodLink RX2 114 yX2_both, Cond.static yX2_both, Cond.code yX2_both cX2_both 4 (some .int), Cond.fieldLink RX2 117 "ShapeJudge$Judge" "APART" "[I"]
def wsX2_setsDealt : List Cond := .code yX2_setsDealt cX2_setsDealt 8 (some .int) :: ((wsX2_setsDealt_r1 ++ wsX2_setsDealt_r2) ++ wsX20 ++ wsX00 ++ wsX10)
def wsX2_suits_r1 : List Cond := [Cond.fieldLink RX2 28 "ShapeJudge$Judge" "book" "LShapeJudge$Book;", Cond.fieldLink RX2 94 "ShapeJudge$Book" "closed" "[Z", Cond.methodLink RX2 90 yX2_wantedEdges, Cond.instanceMethod yX2_wantedEdges, Cond.selects RX2 yX2_wantedEdges yX2_wantedEdges, Cond.initialized RX2, Cond.code yX2_wantedEdges cX2_wantedEdges 5 (some .int), Cond.fieldLink RX2 24 "ShapeJudge$Judge" "graph" "LShapeJudge$Graph;", Cond.fieldLink RX2 71 "ShapeJudge$Graph" "degrees" "[I", Cond.fieldLink RX2 80 "ShapeJudge$Book" "names" "[I", Cond.fieldLink RX2 83 "ShapeJudge$Graph" "edgeName" "[I", Cond.methodLink RX2 86 yX2_presentEdges, Cond.instanceMethod yX2_presentEdges, Cond.selects RX2 yX2_presentEdges yX2_presentEdges, Cond.code yX2_presentEdges cX2_presentEdges 3 (some .int), Cond.fieldLink RX2 74 "ShapeJudge$Judge" "thinNode" "I", Cond.fieldLink RX2 77 "ShapeJudge$Judge" "goneEdges" "I", Cond.methodLink RX2 98 yX2_setsDealt, Cond.instanceMethod yX2_setsDealt, Cond.selects RX2 yX2_setsDealt yX2_setsDealt, Cond.code yX2_setsDealt cX2_setsDealt 8 (some .int), Cond.fieldLink RX2 102 "ShapeJudge$Book" "firstStep" "[I", Cond.fieldLink RX2 105 "ShapeJudge$Book" "steps" "[I", Cond.fieldLink RX2 21 "ShapeJudge$Judge" "stack" "[I"]
def wsX2_suits_r2 : List Cond := [Cond.methodLink RX2 108 yX2_setsTaken, Cond.instanceMethod yX2_setsTaken, Cond.selects RX2 yX2_setsTaken yX2_setsTaken, Cond.code yX2_setsTaken cX2_setsTaken 9 (some .int), Cond.fieldLink RX2 18 "ShapeJudge$Judge" "allowed" "[I", Cond.fieldLink RX2 120 "ShapeJudge$Book" "partName" "[I", Cond.fieldLink RX2 123 "ShapeJudge$Graph" "edgeTo" "[I", Cond.methodLink RX2 126 yX2_passes, Cond.instanceMethod yX2_passes, Cond.selects RX2 yX2_passes yX2_passes, Cond.code yX2_passes cX2_passes 5 (some .boolean), Cond.fieldLink RX2 129 "ShapeJudge$Book" "partFirst" "[I", Cond.fieldLink RX2 132 "ShapeJudge$Book" "partTest" "[I", Cond.fieldLink RX2 9 "ShapeJudge$Judge" "fitting" "[I", Cond.fieldLink RX2 135 "ShapeJudge$Graph" "valued" "[Z", Cond.fieldLink RX2 138 "ShapeJudge$Graph" "values" "[I", Cond.fieldLink RX2 141 "ShapeJudge$Book" "partSecond" "[I", Cond.methodLink RX2 111 yX2_times, Cond.instanceMethod yX2_times, Cond.selects RX2 yX2_times yX2_times, Cond.code yX2_times cX2_times 8 (some .int), Cond.methodLink RX2 114 yX2_both, Cond.static yX2_both, Cond.code yX2_both cX2_both 4 (some .int)]
def wsX2_suits_r3 : List Cond := [Cond.fieldLink RX2 117 "ShapeJudge$Judge" "APART" "[I"]
def wsX2_suits : List Cond := .code yX2_suits cX2_suits 5 (some .boolean) :: ((wsX2_suits_r1 ++ (wsX2_suits_r2 ++ wsX2_suits_r3)) ++ wsX20 ++ wsX00 ++ wsX10)
def wsX2_dropUnfit_r1 : List Cond := [Cond.fieldLink RX2 28 "ShapeJudge$Judge" "book" "LShapeJudge$Book;", Cond.fieldLink RX2 57 "ShapeJudge$Book" "shapeCount" "I", Cond.fieldLink RX2 24 "ShapeJudge$Judge" "graph" "LShapeJudge$Graph;", Cond.fieldLink RX2 48 "ShapeJudge$Graph" "nodes" "I", Cond.fieldLink RX2 60 "ShapeJudge$Book" "level" "[I", Cond.fieldLink RX2 9 "ShapeJudge$Judge" "fitting" "[I", Cond.methodLink RX2 63 yX2_suits, Cond.instanceMethod yX2_suits, Cond.selects RX2 yX2_suits yX2_suits, Cond.initialized RX2, Cond.code yX2_suits cX2_suits 5 (some .boolean), Cond.fieldLink RX2 94 "ShapeJudge$Book" "closed" "[Z", Cond.methodLink RX2 90 yX2_wantedEdges, Cond.instanceMethod yX2_wantedEdges, Cond.selects RX2 yX2_wantedEdges yX2_wantedEdges, Cond.code yX2_wantedEdges cX2_wantedEdges 5 (some .int), Cond.fieldLink RX2 71 "ShapeJudge$Graph" "degrees" "[I", Cond.fieldLink RX2 80 "ShapeJudge$Book" "names" "[I", Cond.fieldLink RX2 83 "ShapeJudge$Graph" "edgeName" "[I", Cond.methodLink RX2 86 yX2_presentEdges, Cond.instanceMethod yX2_presentEdges, Cond.selects RX2 yX2_presentEdges yX2_presentEdges, Cond.code yX2_presentEdges cX2_presentEdges 3 (some .int), Cond.fieldLink RX2 74 "ShapeJudge$Judge" "thinNode" "I"]
def wsX2_dropUnfit_r2 : List Cond := [Cond.fieldLink RX2 77 "ShapeJudge$Judge" "goneEdges" "I", Cond.methodLink RX2 98 yX2_setsDealt, Cond.instanceMethod yX2_setsDealt, Cond.selects RX2 yX2_setsDealt yX2_setsDealt, Cond.code yX2_setsDealt cX2_setsDealt 8 (some .int), Cond.fieldLink RX2 102 "ShapeJudge$Book" "firstStep" "[I", Cond.fieldLink RX2 105 "ShapeJudge$Book" "steps" "[I", Cond.fieldLink RX2 21 "ShapeJudge$Judge" "stack" "[I", Cond.methodLink RX2 108 yX2_setsTaken, Cond.instanceMethod yX2_setsTaken, Cond.selects RX2 yX2_setsTaken yX2_setsTaken, Cond.code yX2_setsTaken cX2_setsTaken 9 (some .int), Cond.fieldLink RX2 18 "ShapeJudge$Judge" "allowed" "[I", Cond.fieldLink RX2 120 "ShapeJudge$Book" "partName" "[I", Cond.fieldLink RX2 123 "ShapeJudge$Graph" "edgeTo" "[I", Cond.methodLink RX2 126 yX2_passes, Cond.instanceMethod yX2_passes, Cond.selects RX2 yX2_passes yX2_passes, Cond.code yX2_passes cX2_passes 5 (some .boolean), Cond.fieldLink RX2 129 "ShapeJudge$Book" "partFirst" "[I", Cond.fieldLink RX2 132 "ShapeJudge$Book" "partTest" "[I", Cond.fieldLink RX2 135 "ShapeJudge$Graph" "valued" "[Z", Cond.fieldLink RX2 138 "ShapeJudge$Graph" "values" "[I", Cond.fieldLink RX2 141 "ShapeJudge$Book" "partSecond" "[I"]
def wsX2_dropUnfit_r3 : List Cond := [Cond.methodLink RX2 111 yX2_times, Cond.instanceMethod yX2_times, Cond.selects RX2 yX2_times yX2_times, Cond.code yX2_times cX2_times 8 (some .int), Cond.methodLink RX2 114 yX2_both, Cond.static yX2_both, Cond.code yX2_both cX2_both 4 (some .int), Cond.fieldLink RX2 117 "ShapeJudge$Judge" "APART" "[I"]
def wsX2_dropUnfit : List Cond := .code yX2_dropUnfit cX2_dropUnfit 5 (some .boolean) :: ((wsX2_dropUnfit_r1 ++ (wsX2_dropUnfit_r2 ++ wsX2_dropUnfit_r3)) ++ wsX20 ++ wsX00 ++ wsX10)
def wsX2_readFits_r1 : List Cond := [Cond.fieldLink RX2 35 "ShapeJudge$Judge" "fittingIsRead" "Z", Cond.fieldLink RX2 9 "ShapeJudge$Judge" "fitting" "[I", Cond.fieldLink RX2 28 "ShapeJudge$Judge" "book" "LShapeJudge$Book;", Cond.fieldLink RX2 24 "ShapeJudge$Judge" "graph" "LShapeJudge$Graph;", Cond.fieldLink RX2 48 "ShapeJudge$Graph" "nodes" "I", Cond.methodLink RX2 42 yX0_hasShape, Cond.instanceMethod yX0_hasShape, Cond.selects RX0 yX0_hasShape yX0_hasShape, Cond.initialized RX0, Cond.code yX0_hasShape cX0_hasShape 2 (some .boolean), Cond.fieldLink RX0 52 "ShapeJudge$Book" "shapeCount" "I", Cond.methodLink RX2 54 yX2_dropUnfit, Cond.instanceMethod yX2_dropUnfit, Cond.selects RX2 yX2_dropUnfit yX2_dropUnfit, Cond.initialized RX2, Cond.code yX2_dropUnfit cX2_dropUnfit 5 (some .boolean), Cond.fieldLink RX2 57 "ShapeJudge$Book" "shapeCount" "I", Cond.fieldLink RX2 60 "ShapeJudge$Book" "level" "[I", Cond.methodLink RX2 63 yX2_suits, Cond.instanceMethod yX2_suits, Cond.selects RX2 yX2_suits yX2_suits, Cond.code yX2_suits cX2_suits 5 (some .boolean), Cond.fieldLink RX2 94 "ShapeJudge$Book" "closed" "[Z", Cond.methodLink RX2 90 yX2_wantedEdges]
def wsX2_readFits_r2 : List Cond := [Cond.instanceMethod yX2_wantedEdges, Cond.selects RX2 yX2_wantedEdges yX2_wantedEdges, Cond.code yX2_wantedEdges cX2_wantedEdges 5 (some .int), Cond.fieldLink RX2 71 "ShapeJudge$Graph" "degrees" "[I", Cond.fieldLink RX2 80 "ShapeJudge$Book" "names" "[I", Cond.fieldLink RX2 83 "ShapeJudge$Graph" "edgeName" "[I", Cond.methodLink RX2 86 yX2_presentEdges, Cond.instanceMethod yX2_presentEdges, Cond.selects RX2 yX2_presentEdges yX2_presentEdges, Cond.code yX2_presentEdges cX2_presentEdges 3 (some .int), Cond.fieldLink RX2 74 "ShapeJudge$Judge" "thinNode" "I", Cond.fieldLink RX2 77 "ShapeJudge$Judge" "goneEdges" "I", Cond.methodLink RX2 98 yX2_setsDealt, Cond.instanceMethod yX2_setsDealt, Cond.selects RX2 yX2_setsDealt yX2_setsDealt, Cond.code yX2_setsDealt cX2_setsDealt 8 (some .int), Cond.fieldLink RX2 102 "ShapeJudge$Book" "firstStep" "[I", Cond.fieldLink RX2 105 "ShapeJudge$Book" "steps" "[I", Cond.fieldLink RX2 21 "ShapeJudge$Judge" "stack" "[I", Cond.methodLink RX2 108 yX2_setsTaken, Cond.instanceMethod yX2_setsTaken, Cond.selects RX2 yX2_setsTaken yX2_setsTaken, Cond.code yX2_setsTaken cX2_setsTaken 9 (some .int), Cond.fieldLink RX2 18 "ShapeJudge$Judge" "allowed" "[I"]
def wsX2_readFits_r3 : List Cond := [Cond.fieldLink RX2 120 "ShapeJudge$Book" "partName" "[I", Cond.fieldLink RX2 123 "ShapeJudge$Graph" "edgeTo" "[I", Cond.methodLink RX2 126 yX2_passes, Cond.instanceMethod yX2_passes, Cond.selects RX2 yX2_passes yX2_passes, Cond.code yX2_passes cX2_passes 5 (some .boolean), Cond.fieldLink RX2 129 "ShapeJudge$Book" "partFirst" "[I", Cond.fieldLink RX2 132 "ShapeJudge$Book" "partTest" "[I", Cond.fieldLink RX2 135 "ShapeJudge$Graph" "valued" "[Z", Cond.fieldLink RX2 138 "ShapeJudge$Graph" "values" "[I", Cond.fieldLink RX2 141 "ShapeJudge$Book" "partSecond" "[I", Cond.methodLink RX2 111 yX2_times, Cond.instanceMethod yX2_times, Cond.selects RX2 yX2_times yX2_times, Cond.code yX2_times cX2_times 8 (some .int), Cond.methodLink RX2 114 yX2_both, Cond.static yX2_both, Cond.code yX2_both cX2_both 4 (some .int), Cond.fieldLink RX2 117 "ShapeJudge$Judge" "APART" "[I"]
def wsX2_readFits : List Cond := .code yX2_readFits cX2_readFits 4 none :: ((wsX2_readFits_r1 ++ (wsX2_readFits_r2 ++ wsX2_readFits_r3)) ++ wsX20 ++ wsX10 ++ wsX00)
def wsX2_addSuiting_r1 : List Cond := [Cond.fieldLink RX2 28 "ShapeJudge$Judge" "book" "LShapeJudge$Book;", Cond.fieldLink RX2 57 "ShapeJudge$Book" "shapeCount" "I", Cond.fieldLink RX2 24 "ShapeJudge$Judge" "graph" "LShapeJudge$Graph;", Cond.fieldLink RX2 48 "ShapeJudge$Graph" "nodes" "I", Cond.fieldLink RX2 15 "ShapeJudge$Judge" "sure" "[I", Cond.methodLink RX2 63 yX2_suits, Cond.instanceMethod yX2_suits, Cond.selects RX2 yX2_suits yX2_suits, Cond.initialized RX2, Cond.code yX2_suits cX2_suits 5 (some .boolean), Cond.fieldLink RX2 94 "ShapeJudge$Book" "closed" "[Z", Cond.methodLink RX2 90 yX2_wantedEdges, Cond.instanceMethod yX2_wantedEdges, Cond.selects RX2 yX2_wantedEdges yX2_wantedEdges, Cond.code yX2_wantedEdges cX2_wantedEdges 5 (some .int), Cond.fieldLink RX2 71 "ShapeJudge$Graph" "degrees" "[I", Cond.fieldLink RX2 80 "ShapeJudge$Book" "names" "[I", Cond.fieldLink RX2 83 "ShapeJudge$Graph" "edgeName" "[I", Cond.methodLink RX2 86 yX2_presentEdges, Cond.instanceMethod yX2_presentEdges, Cond.selects RX2 yX2_presentEdges yX2_presentEdges, Cond.code yX2_presentEdges cX2_presentEdges 3 (some .int), Cond.fieldLink RX2 74 "ShapeJudge$Judge" "thinNode" "I", Cond.fieldLink RX2 77 "ShapeJudge$Judge" "goneEdges" "I"]
def wsX2_addSuiting_r2 : List Cond := [Cond.methodLink RX2 98 yX2_setsDealt, Cond.instanceMethod yX2_setsDealt, Cond.selects RX2 yX2_setsDealt yX2_setsDealt, Cond.code yX2_setsDealt cX2_setsDealt 8 (some .int), Cond.fieldLink RX2 102 "ShapeJudge$Book" "firstStep" "[I", Cond.fieldLink RX2 105 "ShapeJudge$Book" "steps" "[I", Cond.fieldLink RX2 21 "ShapeJudge$Judge" "stack" "[I", Cond.methodLink RX2 108 yX2_setsTaken, Cond.instanceMethod yX2_setsTaken, Cond.selects RX2 yX2_setsTaken yX2_setsTaken, Cond.code yX2_setsTaken cX2_setsTaken 9 (some .int), Cond.fieldLink RX2 18 "ShapeJudge$Judge" "allowed" "[I", Cond.fieldLink RX2 120 "ShapeJudge$Book" "partName" "[I", Cond.fieldLink RX2 123 "ShapeJudge$Graph" "edgeTo" "[I", Cond.methodLink RX2 126 yX2_passes, Cond.instanceMethod yX2_passes, Cond.selects RX2 yX2_passes yX2_passes, Cond.code yX2_passes cX2_passes 5 (some .boolean), Cond.fieldLink RX2 129 "ShapeJudge$Book" "partFirst" "[I", Cond.fieldLink RX2 132 "ShapeJudge$Book" "partTest" "[I", Cond.fieldLink RX2 9 "ShapeJudge$Judge" "fitting" "[I", Cond.fieldLink RX2 135 "ShapeJudge$Graph" "valued" "[Z", Cond.fieldLink RX2 138 "ShapeJudge$Graph" "values" "[I", Cond.fieldLink RX2 141 "ShapeJudge$Book" "partSecond" "[I"]
def wsX2_addSuiting_r3 : List Cond := [Cond.methodLink RX2 111 yX2_times, Cond.instanceMethod yX2_times, Cond.selects RX2 yX2_times yX2_times, Cond.code yX2_times cX2_times 8 (some .int), Cond.methodLink RX2 114 yX2_both, Cond.static yX2_both, Cond.code yX2_both cX2_both 4 (some .int), Cond.fieldLink RX2 117 "ShapeJudge$Judge" "APART" "[I"]
def wsX2_addSuiting : List Cond := .code yX2_addSuiting cX2_addSuiting 4 (some .boolean) :: ((wsX2_addSuiting_r1 ++ (wsX2_addSuiting_r2 ++ wsX2_addSuiting_r3)) ++ wsX20 ++ wsX00 ++ wsX10)
def wsX2_readSure_r1 : List Cond := [Cond.fieldLink RX2 39 "ShapeJudge$Judge" "sureIsRead" "Z", Cond.fieldLink RX2 15 "ShapeJudge$Judge" "sure" "[I", Cond.methodLink RX2 67 yX2_addSuiting, Cond.instanceMethod yX2_addSuiting, Cond.selects RX2 yX2_addSuiting yX2_addSuiting, Cond.initialized RX2, Cond.code yX2_addSuiting cX2_addSuiting 4 (some .boolean), Cond.fieldLink RX2 28 "ShapeJudge$Judge" "book" "LShapeJudge$Book;", Cond.fieldLink RX2 57 "ShapeJudge$Book" "shapeCount" "I", Cond.fieldLink RX2 24 "ShapeJudge$Judge" "graph" "LShapeJudge$Graph;", Cond.fieldLink RX2 48 "ShapeJudge$Graph" "nodes" "I", Cond.methodLink RX2 63 yX2_suits, Cond.instanceMethod yX2_suits, Cond.selects RX2 yX2_suits yX2_suits, Cond.code yX2_suits cX2_suits 5 (some .boolean), Cond.fieldLink RX2 94 "ShapeJudge$Book" "closed" "[Z", Cond.methodLink RX2 90 yX2_wantedEdges, Cond.instanceMethod yX2_wantedEdges, Cond.selects RX2 yX2_wantedEdges yX2_wantedEdges, Cond.code yX2_wantedEdges cX2_wantedEdges 5 (some .int), Cond.fieldLink RX2 71 "ShapeJudge$Graph" "degrees" "[I", Cond.fieldLink RX2 80 "ShapeJudge$Book" "names" "[I", Cond.fieldLink RX2 83 "ShapeJudge$Graph" "edgeName" "[I", Cond.methodLink RX2 86 yX2_presentEdges]
def wsX2_readSure_r2 : List Cond := [Cond.instanceMethod yX2_presentEdges, Cond.selects RX2 yX2_presentEdges yX2_presentEdges, Cond.code yX2_presentEdges cX2_presentEdges 3 (some .int), Cond.fieldLink RX2 74 "ShapeJudge$Judge" "thinNode" "I", Cond.fieldLink RX2 77 "ShapeJudge$Judge" "goneEdges" "I", Cond.methodLink RX2 98 yX2_setsDealt, Cond.instanceMethod yX2_setsDealt, Cond.selects RX2 yX2_setsDealt yX2_setsDealt, Cond.code yX2_setsDealt cX2_setsDealt 8 (some .int), Cond.fieldLink RX2 102 "ShapeJudge$Book" "firstStep" "[I", Cond.fieldLink RX2 105 "ShapeJudge$Book" "steps" "[I", Cond.fieldLink RX2 21 "ShapeJudge$Judge" "stack" "[I", Cond.methodLink RX2 108 yX2_setsTaken, Cond.instanceMethod yX2_setsTaken, Cond.selects RX2 yX2_setsTaken yX2_setsTaken, Cond.code yX2_setsTaken cX2_setsTaken 9 (some .int), Cond.fieldLink RX2 18 "ShapeJudge$Judge" "allowed" "[I", Cond.fieldLink RX2 120 "ShapeJudge$Book" "partName" "[I", Cond.fieldLink RX2 123 "ShapeJudge$Graph" "edgeTo" "[I", Cond.methodLink RX2 126 yX2_passes, Cond.instanceMethod yX2_passes, Cond.selects RX2 yX2_passes yX2_passes, Cond.code yX2_passes cX2_passes 5 (some .boolean), Cond.fieldLink RX2 129 "ShapeJudge$Book" "partFirst" "[I"]
def wsX2_readSure_r3 : List Cond := [Cond.fieldLink RX2 132 "ShapeJudge$Book" "partTest" "[I", Cond.fieldLink RX2 9 "ShapeJudge$Judge" "fitting" "[I", Cond.fieldLink RX2 135 "ShapeJudge$Graph" "valued" "[Z", Cond.fieldLink RX2 138 "ShapeJudge$Graph" "values" "[I", Cond.fieldLink RX2 141 "ShapeJudge$Book" "partSecond" "[I", Cond.methodLink RX2 111 yX2_times, Cond.instanceMethod yX2_times, Cond.selects RX2 yX2_times yX2_times, Cond.code yX2_times cX2_times 8 (some .int), Cond.methodLink RX2 114 yX2_both, Cond.static yX2_both, Cond.code yX2_both cX2_both 4 (some .int), Cond.fieldLink RX2 117 "ShapeJudge$Judge" "APART" "[I"]
def wsX2_readSure : List Cond := .code yX2_readSure cX2_readSure 3 none :: ((wsX2_readSure_r1 ++ (wsX2_readSure_r2 ++ wsX2_readSure_r3)) ++ wsX20 ++ wsX00 ++ wsX10)
def wsX2_bindToLeastPart_r1 : List Cond := [Cond.fieldLink RX2 28 "ShapeJudge$Judge" "book" "LShapeJudge$Book;", Cond.fieldLink RX2 148 "ShapeJudge$Book" "partCount" "[I", Cond.fieldLink RX2 18 "ShapeJudge$Judge" "allowed" "[I", Cond.fieldLink RX2 9 "ShapeJudge$Judge" "fitting" "[I", Cond.methodLink RX2 63 yX2_suits, Cond.instanceMethod yX2_suits, Cond.selects RX2 yX2_suits yX2_suits, Cond.initialized RX2, Cond.code yX2_suits cX2_suits 5 (some .boolean), Cond.fieldLink RX2 94 "ShapeJudge$Book" "closed" "[Z", Cond.methodLink RX2 90 yX2_wantedEdges, Cond.instanceMethod yX2_wantedEdges, Cond.selects RX2 yX2_wantedEdges yX2_wantedEdges, Cond.code yX2_wantedEdges cX2_wantedEdges 5 (some .int), Cond.fieldLink RX2 24 "ShapeJudge$Judge" "graph" "LShapeJudge$Graph;", Cond.fieldLink RX2 71 "ShapeJudge$Graph" "degrees" "[I", Cond.fieldLink RX2 80 "ShapeJudge$Book" "names" "[I", Cond.fieldLink RX2 83 "ShapeJudge$Graph" "edgeName" "[I", Cond.methodLink RX2 86 yX2_presentEdges, Cond.instanceMethod yX2_presentEdges, Cond.selects RX2 yX2_presentEdges yX2_presentEdges, Cond.code yX2_presentEdges cX2_presentEdges 3 (some .int), Cond.fieldLink RX2 74 "ShapeJudge$Judge" "thinNode" "I", Cond.fieldLink RX2 77 "ShapeJudge$Judge" "goneEdges" "I"]
def wsX2_bindToLeastPart_r2 : List Cond := [Cond.methodLink RX2 98 yX2_setsDealt, Cond.instanceMethod yX2_setsDealt, Cond.selects RX2 yX2_setsDealt yX2_setsDealt, Cond.code yX2_setsDealt cX2_setsDealt 8 (some .int), Cond.fieldLink RX2 102 "ShapeJudge$Book" "firstStep" "[I", Cond.fieldLink RX2 105 "ShapeJudge$Book" "steps" "[I", Cond.fieldLink RX2 21 "ShapeJudge$Judge" "stack" "[I", Cond.methodLink RX2 108 yX2_setsTaken, Cond.instanceMethod yX2_setsTaken, Cond.selects RX2 yX2_setsTaken yX2_setsTaken, Cond.code yX2_setsTaken cX2_setsTaken 9 (some .int), Cond.fieldLink RX2 120 "ShapeJudge$Book" "partName" "[I", Cond.fieldLink RX2 123 "ShapeJudge$Graph" "edgeTo" "[I", Cond.methodLink RX2 126 yX2_passes, Cond.instanceMethod yX2_passes, Cond.selects RX2 yX2_passes yX2_passes, Cond.code yX2_passes cX2_passes 5 (some .boolean), Cond.fieldLink RX2 129 "ShapeJudge$Book" "partFirst" "[I", Cond.fieldLink RX2 132 "ShapeJudge$Book" "partTest" "[I", Cond.fieldLink RX2 135 "ShapeJudge$Graph" "valued" "[Z", Cond.fieldLink RX2 138 "ShapeJudge$Graph" "values" "[I", Cond.fieldLink RX2 141 "ShapeJudge$Book" "partSecond" "[I", Cond.methodLink RX2 111 yX2_times, Cond.instanceMethod yX2_times]
def wsX2_bindToLeastPart_r3 : List Cond := [Cond.selects RX2 yX2_times yX2_times, Cond.code yX2_times cX2_times 8 (some .int), Cond.methodLink RX2 114 yX2_both, Cond.static yX2_both, Cond.code yX2_both cX2_both 4 (some .int), Cond.fieldLink RX2 117 "ShapeJudge$Judge" "APART" "[I"]
def wsX2_bindToLeastPart : List Cond := .code yX2_bindToLeastPart cX2_bindToLeastPart 5 (some .int) :: ((wsX2_bindToLeastPart_r1 ++ (wsX2_bindToLeastPart_r2 ++ wsX2_bindToLeastPart_r3)) ++ wsX20 ++ wsX00 ++ wsX10)
def wsX2_leastPartOf_r1 : List Cond := [Cond.fieldLink RX2 18 "ShapeJudge$Judge" "allowed" "[I", Cond.methodLink RX2 90 yX2_wantedEdges, Cond.instanceMethod yX2_wantedEdges, Cond.selects RX2 yX2_wantedEdges yX2_wantedEdges, Cond.initialized RX2, Cond.code yX2_wantedEdges cX2_wantedEdges 5 (some .int), Cond.fieldLink RX2 24 "ShapeJudge$Judge" "graph" "LShapeJudge$Graph;", Cond.fieldLink RX2 71 "ShapeJudge$Graph" "degrees" "[I", Cond.fieldLink RX2 28 "ShapeJudge$Judge" "book" "LShapeJudge$Book;", Cond.fieldLink RX2 80 "ShapeJudge$Book" "names" "[I", Cond.fieldLink RX2 83 "ShapeJudge$Graph" "edgeName" "[I", Cond.methodLink RX2 86 yX2_presentEdges, Cond.instanceMethod yX2_presentEdges, Cond.selects RX2 yX2_presentEdges yX2_presentEdges, Cond.code yX2_presentEdges cX2_presentEdges 3 (some .int), Cond.fieldLink RX2 74 "ShapeJudge$Judge" "thinNode" "I", Cond.fieldLink RX2 77 "ShapeJudge$Judge" "goneEdges" "I", Cond.methodLink RX2 144 yX2_bindToLeastPart, Cond.instanceMethod yX2_bindToLeastPart, Cond.selects RX2 yX2_bindToLeastPart yX2_bindToLeastPart, Cond.code yX2_bindToLeastPart cX2_bindToLeastPart 5 (some .int), Cond.fieldLink RX2 148 "ShapeJudge$Book" "partCount" "[I", Cond.fieldLink RX2 9 "ShapeJudge$Judge" "fitting" "[I", Cond.methodLink RX2 63 yX2_suits]
def wsX2_leastPartOf_r2 : List Cond := [Cond.instanceMethod yX2_suits, Cond.selects RX2 yX2_suits yX2_suits, Cond.code yX2_suits cX2_suits 5 (some .boolean), Cond.fieldLink RX2 94 "ShapeJudge$Book" "closed" "[Z", Cond.methodLink RX2 98 yX2_setsDealt, Cond.instanceMethod yX2_setsDealt, Cond.selects RX2 yX2_setsDealt yX2_setsDealt, Cond.code yX2_setsDealt cX2_setsDealt 8 (some .int), Cond.fieldLink RX2 102 "ShapeJudge$Book" "firstStep" "[I", Cond.fieldLink RX2 105 "ShapeJudge$Book" "steps" "[I", Cond.fieldLink RX2 21 "ShapeJudge$Judge" "stack" "[I", Cond.methodLink RX2 108 yX2_setsTaken, Cond.instanceMethod yX2_setsTaken, Cond.selects RX2 yX2_setsTaken yX2_setsTaken, Cond.code yX2_setsTaken cX2_setsTaken 9 (some .int), Cond.fieldLink RX2 120 "ShapeJudge$Book" "partName" "[I", Cond.fieldLink RX2 123 "ShapeJudge$Graph" "edgeTo" "[I", Cond.methodLink RX2 126 yX2_passes, Cond.instanceMethod yX2_passes, Cond.selects RX2 yX2_passes yX2_passes, Cond.code yX2_passes cX2_passes 5 (some .boolean), Cond.fieldLink RX2 129 "ShapeJudge$Book" "partFirst" "[I", Cond.fieldLink RX2 132 "ShapeJudge$Book" "partTest" "[I", Cond.fieldLink RX2 135 "ShapeJudge$Graph" "valued" "[Z"]
def wsX2_leastPartOf_r3 : List Cond := [Cond.fieldLink RX2 138 "ShapeJudge$Graph" "values" "[I", Cond.fieldLink RX2 141 "ShapeJudge$Book" "partSecond" "[I", Cond.methodLink RX2 111 yX2_times, Cond.instanceMethod yX2_times, Cond.selects RX2 yX2_times yX2_times, Cond.code yX2_times cX2_times 8 (some .int), Cond.methodLink RX2 114 yX2_both, Cond.static yX2_both, Cond.code yX2_both cX2_both 4 (some .int), Cond.fieldLink RX2 117 "ShapeJudge$Judge" "APART" "[I"]
def wsX2_leastPartOf : List Cond := .code yX2_leastPartOf cX2_leastPartOf 7 (some .int) :: ((wsX2_leastPartOf_r1 ++ (wsX2_leastPartOf_r2 ++ wsX2_leastPartOf_r3)) ++ wsX20 ++ wsX10 ++ wsX00)
def wsJ6_bitCount_0f7a4 : List Cond := .code yJ6_bitCount_0f7a4 cJ6_bitCount_0f7a4 1 (some .int) :: ([.constant RJ6 265 (1431655765), .constant RJ6 266 (858993459), .constant RJ6 267 (252645135)])
def wsX2_surplusEdges_r1 : List Cond := [Cond.fieldLink RX2 9 "ShapeJudge$Judge" "fitting" "[I", Cond.fieldLink RX2 24 "ShapeJudge$Judge" "graph" "LShapeJudge$Graph;", Cond.fieldLink RX2 71 "ShapeJudge$Graph" "degrees" "[I", Cond.fieldLink RX2 74 "ShapeJudge$Judge" "thinNode" "I", Cond.fieldLink RX2 77 "ShapeJudge$Judge" "goneEdges" "I", Cond.methodLink RX2 151 yX2_readFits, Cond.instanceMethod yX2_readFits, Cond.selects RX2 yX2_readFits yX2_readFits, Cond.initialized RX2, Cond.code yX2_readFits cX2_readFits 4 none, Cond.fieldLink RX2 35 "ShapeJudge$Judge" "fittingIsRead" "Z", Cond.fieldLink RX2 28 "ShapeJudge$Judge" "book" "LShapeJudge$Book;", Cond.fieldLink RX2 48 "ShapeJudge$Graph" "nodes" "I", Cond.methodLink RX2 42 yX0_hasShape, Cond.instanceMethod yX0_hasShape, Cond.selects RX0 yX0_hasShape yX0_hasShape, Cond.initialized RX0, Cond.code yX0_hasShape cX0_hasShape 2 (some .boolean), Cond.fieldLink RX0 52 "ShapeJudge$Book" "shapeCount" "I", Cond.methodLink RX2 54 yX2_dropUnfit, Cond.instanceMethod yX2_dropUnfit, Cond.selects RX2 yX2_dropUnfit yX2_dropUnfit, Cond.code yX2_dropUnfit cX2_dropUnfit 5 (some .boolean), Cond.fieldLink RX2 57 "ShapeJudge$Book" "shapeCount" "I"]
def wsX2_surplusEdges_r2 : List Cond := [Cond.fieldLink RX2 60 "ShapeJudge$Book" "level" "[I", Cond.methodLink RX2 63 yX2_suits, Cond.instanceMethod yX2_suits, Cond.selects RX2 yX2_suits yX2_suits, Cond.code yX2_suits cX2_suits 5 (some .boolean), Cond.fieldLink RX2 94 "ShapeJudge$Book" "closed" "[Z", Cond.methodLink RX2 90 yX2_wantedEdges, Cond.instanceMethod yX2_wantedEdges, Cond.selects RX2 yX2_wantedEdges yX2_wantedEdges, Cond.code yX2_wantedEdges cX2_wantedEdges 5 (some .int), Cond.fieldLink RX2 80 "ShapeJudge$Book" "names" "[I", Cond.fieldLink RX2 83 "ShapeJudge$Graph" "edgeName" "[I", Cond.methodLink RX2 86 yX2_presentEdges, Cond.instanceMethod yX2_presentEdges, Cond.selects RX2 yX2_presentEdges yX2_presentEdges, Cond.code yX2_presentEdges cX2_presentEdges 3 (some .int), Cond.methodLink RX2 98 yX2_setsDealt, Cond.instanceMethod yX2_setsDealt, Cond.selects RX2 yX2_setsDealt yX2_setsDealt, Cond.code yX2_setsDealt cX2_setsDealt 8 (some .int), Cond.fieldLink RX2 102 "ShapeJudge$Book" "firstStep" "[I", Cond.fieldLink RX2 105 "ShapeJudge$Book" "steps" "[I", Cond.fieldLink RX2 21 "ShapeJudge$Judge" "stack" "[I", Cond.methodLink RX2 108 yX2_setsTaken]
def wsX2_surplusEdges_r3 : List Cond := [Cond.instanceMethod yX2_setsTaken, Cond.selects RX2 yX2_setsTaken yX2_setsTaken, Cond.code yX2_setsTaken cX2_setsTaken 9 (some .int), Cond.fieldLink RX2 18 "ShapeJudge$Judge" "allowed" "[I", Cond.fieldLink RX2 120 "ShapeJudge$Book" "partName" "[I", Cond.fieldLink RX2 123 "ShapeJudge$Graph" "edgeTo" "[I", Cond.methodLink RX2 126 yX2_passes, Cond.instanceMethod yX2_passes, Cond.selects RX2 yX2_passes yX2_passes, Cond.code yX2_passes cX2_passes 5 (some .boolean), Cond.fieldLink RX2 129 "ShapeJudge$Book" "partFirst" "[I", Cond.fieldLink RX2 132 "ShapeJudge$Book" "partTest" "[I", Cond.fieldLink RX2 135 "ShapeJudge$Graph" "valued" "[Z", Cond.fieldLink RX2 138 "ShapeJudge$Graph" "values" "[I", Cond.fieldLink RX2 141 "ShapeJudge$Book" "partSecond" "[I", Cond.methodLink RX2 111 yX2_times, Cond.instanceMethod yX2_times, Cond.selects RX2 yX2_times yX2_times, Cond.code yX2_times cX2_times 8 (some .int), Cond.methodLink RX2 114 yX2_both, Cond.static yX2_both, Cond.code yX2_both cX2_both 4 (some .int), Cond.fieldLink RX2 117 "ShapeJudge$Judge" "APART" "[I", Cond.methodLink RX2 154 yJ6_bitCount_0f7a4]
def wsX2_surplusEdges_r4 : List Cond := [Cond.static yJ6_bitCount_0f7a4, Cond.initialized RJ6, Cond.code yJ6_bitCount_0f7a4 cJ6_bitCount_0f7a4 1 (some .int), Cond.constant RJ6 265 (1431655765), Cond.constant RJ6 266 (858993459), Cond.constant RJ6 267 (252645135), Cond.methodLink RX2 32 yX2_forget, Cond.instanceMethod yX2_forget, Cond.selects RX2 yX2_forget yX2_forget, Cond.code yX2_forget cX2_forget 1 none, Cond.fieldLink RX2 39 "ShapeJudge$Judge" "sureIsRead" "Z"]
def wsX2_surplusEdges : List Cond := .code yX2_surplusEdges cX2_surplusEdges 7 (some .int) :: ((wsX2_surplusEdges_r1 ++ (wsX2_surplusEdges_r2 ++ (wsX2_surplusEdges_r3 ++ wsX2_surplusEdges_r4))) ++ wsX20 ++ wsX10 ++ wsX00)
def wsX3_init : List Cond := .code yX3_init cX3_init 1 none :: ([.methodLink RX3 3 objectInit, .instanceMethod objectInit, .code objectInit ⟨#[0xb1]⟩ 1 none, .arrayClass .byte, .fieldLink RX3 9 "ShapeJudge$Tape" "bytes" "[B"] ++ wsX30)
def wsX3_byteAt : List Cond := .code yX3_byteAt cX3_byteAt 2 (some .int) :: ([.fieldLink RX3 15 "ShapeJudge$Tape" "length" "I", .fieldLink RX3 9 "ShapeJudge$Tape" "bytes" "[B"] ++ wsX30)
def wsX3_append : List Cond := .code yX3_append cX3_append 3 none :: ([.fieldLink RX3 15 "ShapeJudge$Tape" "length" "I", .fieldLink RX3 9 "ShapeJudge$Tape" "bytes" "[B"] ++ wsX30)
def wsX5_init : List Cond := .code yX5_init cX5_init 2 none :: ([.methodLink RX5 1 objectInit, .instanceMethod objectInit, .code objectInit ⟨#[0xb1]⟩ 1 none, .fieldLink RX5 7 "ShapeJudge$Tokens" "tape" "LShapeJudge$Tape;"] ++ wsX50)
def wsX4_init : List Cond := .code yX4_init cX4_init 2 none :: ([.methodLink RX4 3 objectInit, .instanceMethod objectInit, .code objectInit ⟨#[0xb1]⟩ 1 none, .classLink RX4 9 RX5, .instantiable RX5 5, .initialized RX5, .fieldLink RX4 14 "ShapeJudge$TextReader" "tokens" "LShapeJudge$Tokens;", .methodLink RX4 11 yX5_init, .instanceMethod yX5_init, .code yX5_init cX5_init 2 none, .methodLink RX5 1 objectInit, .fieldLink RX5 7 "ShapeJudge$Tokens" "tape" "LShapeJudge$Tape;"] ++ wsX50 ++ wsX40)
def wsX5_rewind : List Cond := .code yX5_rewind cX5_rewind 1 none :: ([.fieldLink RX5 13 "ShapeJudge$Tokens" "next" "I"] ++ wsX50)
def wsX5_become : List Cond := .code yX5_become cX5_become 3 none :: ([.fieldLink RX5 57 "ShapeJudge$Tokens" "kind" "I", .fieldLink RX5 26 "ShapeJudge$Tokens" "place" "I", .fieldLink RX5 13 "ShapeJudge$Tokens" "next" "I"] ++ wsX50)
def wsX5_isFigure : List Cond := .code yX5_isFigure cX5_isFigure 1 (some .boolean) :: ([])
def wsX5_readNumber : List Cond := .code yX5_readNumber cX5_readNumber 5 none :: ([.fieldLink RX5 7 "ShapeJudge$Tokens" "tape" "LShapeJudge$Tape;", .fieldLink RX5 26 "ShapeJudge$Tokens" "place" "I", .fieldLink RX5 33 "ShapeJudge$Tokens" "number" "I", .methodLink RX5 22 yX3_byteAt, .instanceMethod yX3_byteAt, .selects RX3 yX3_byteAt yX3_byteAt, .initialized RX3, .code yX3_byteAt cX3_byteAt 2 (some .int), .fieldLink RX3 15 "ShapeJudge$Tape" "length" "I", .fieldLink RX3 9 "ShapeJudge$Tape" "bytes" "[B", .methodLink RX5 36 yX5_isFigure, .static yX5_isFigure, .initialized RX5, .code yX5_isFigure cX5_isFigure 1 (some .boolean), .methodLink RX5 29 yX5_become, .instanceMethod yX5_become, .selects RX5 yX5_become yX5_become, .code yX5_become cX5_become 3 none, .fieldLink RX5 57 "ShapeJudge$Tokens" "kind" "I", .fieldLink RX5 13 "ShapeJudge$Tokens" "next" "I"] ++ wsX50 ++ wsX30)
def wsJ0_coder_7d493 : List Cond := .code yJ0_coder_7d493 cJ0_coder_7d493 1 (some .byte) :: ([.fieldLink RJ0 38 "java/lang/String" "COMPACT_STRINGS" "Z", .fieldLink RJ0 15 "java/lang/String" "coder" "B"])
def wsJ0_length_8abf5 : List Cond := .code yJ0_length_8abf5 cJ0_length_8abf5 1 (some .int) :: ([.fieldLink RJ0 9 "java/lang/String" "value" "[B", .methodLink RJ0 335 yJ0_coder_7d493, .instanceMethod yJ0_coder_7d493, .selects RJ0 yJ0_coder_7d493 yJ0_coder_7d493, .initialized RJ0, .code yJ0_coder_7d493 cJ0_coder_7d493 1 (some .byte), .fieldLink RJ0 38 "java/lang/String" "COMPACT_STRINGS" "Z", .fieldLink RJ0 15 "java/lang/String" "coder" "B"])
def wsJ0_isLatin1_aae02 : List Cond := .code yJ0_isLatin1_aae02 cJ0_isLatin1_aae02 1 (some .boolean) :: ([.fieldLink RJ0 38 "java/lang/String" "COMPACT_STRINGS" "Z", .fieldLink RJ0 15 "java/lang/String" "coder" "B"])
def wsJ3_checkIndex_8e157 : List Cond := .code yJ3_checkIndex_8e157 cJ3_checkIndex_8e157 3 (some .int) :: ([])
def wsJ0_checkIndex_df160 : List Cond := .code yJ0_checkIndex_df160 cJ0_checkIndex_df160 2 none :: ([.fieldLink RJ0 1053 "jdk/internal/util/Preconditions" "SIOOBE_FORMATTER" "Ljava/util/function/BiFunction;", .methodLink RJ0 1059 yJ3_checkIndex_8e157, .static yJ3_checkIndex_8e157, .initialized RJ3, .code yJ3_checkIndex_8e157 cJ3_checkIndex_8e157 3 (some .int)])
def wsJ1_charAt_3b067 : List Cond := .code yJ1_charAt_3b067 cJ1_charAt_3b067 2 (some .char) :: ([.methodLink RJ1 9 yJ0_checkIndex_df160, .static yJ0_checkIndex_df160, .initialized RJ0, .code yJ0_checkIndex_df160 cJ0_checkIndex_df160 2 none, .fieldLink RJ0 1053 "jdk/internal/util/Preconditions" "SIOOBE_FORMATTER" "Ljava/util/function/BiFunction;", .methodLink RJ0 1059 yJ3_checkIndex_8e157, .static yJ3_checkIndex_8e157, .initialized RJ3, .code yJ3_checkIndex_8e157 cJ3_checkIndex_8e157 3 (some .int)])
def wsJ2_length_9d52b : List Cond := .code yJ2_length_9d52b cJ2_length_9d52b 1 (some .int) :: ([])
def wsJ2_checkIndex_2214a : List Cond := .code yJ2_checkIndex_2214a cJ2_checkIndex_2214a 2 none :: ([.methodLink RJ2 48 yJ2_length_9d52b, .static yJ2_length_9d52b, .initialized RJ2, .code yJ2_length_9d52b cJ2_length_9d52b 1 (some .int), .methodLink RJ2 414 yJ0_checkIndex_df160, .static yJ0_checkIndex_df160, .initialized RJ0, .code yJ0_checkIndex_df160 cJ0_checkIndex_df160 2 none, .fieldLink RJ0 1053 "jdk/internal/util/Preconditions" "SIOOBE_FORMATTER" "Ljava/util/function/BiFunction;", .methodLink RJ0 1059 yJ3_checkIndex_8e157, .static yJ3_checkIndex_8e157, .initialized RJ3, .code yJ3_checkIndex_8e157 cJ3_checkIndex_8e157 3 (some .int)])
def wsJ2_getChar_3b067 : List Cond := .code yJ2_getChar_3b067 cJ2_getChar_3b067 2 (some .char) :: ([.fieldLink RJ2 44 "java/lang/StringUTF16" "$assertionsDisabled" "Z", .fieldLink RJ2 59 "java/lang/StringUTF16" "HI_BYTE_SHIFT" "I", .fieldLink RJ2 63 "java/lang/StringUTF16" "LO_BYTE_SHIFT" "I", .methodLink RJ2 48 yJ2_length_9d52b, .static yJ2_length_9d52b, .initialized RJ2, .code yJ2_length_9d52b cJ2_length_9d52b 1 (some .int)])
def wsJ2_charAt_3b067 : List Cond := .code yJ2_charAt_3b067 cJ2_charAt_3b067 2 (some .char) :: ([.methodLink RJ2 67 yJ2_checkIndex_2214a, .static yJ2_checkIndex_2214a, .initialized RJ2, .code yJ2_checkIndex_2214a cJ2_checkIndex_2214a 2 none, .methodLink RJ2 48 yJ2_length_9d52b, .static yJ2_length_9d52b, .code yJ2_length_9d52b cJ2_length_9d52b 1 (some .int), .methodLink RJ2 414 yJ0_checkIndex_df160, .static yJ0_checkIndex_df160, .initialized RJ0, .code yJ0_checkIndex_df160 cJ0_checkIndex_df160 2 none, .fieldLink RJ0 1053 "jdk/internal/util/Preconditions" "SIOOBE_FORMATTER" "Ljava/util/function/BiFunction;", .methodLink RJ0 1059 yJ3_checkIndex_8e157, .static yJ3_checkIndex_8e157, .initialized RJ3, .code yJ3_checkIndex_8e157 cJ3_checkIndex_8e157 3 (some .int), .methodLink RJ2 71 yJ2_getChar_3b067, .static yJ2_getChar_3b067, .code yJ2_getChar_3b067 cJ2_getChar_3b067 2 (some .char), .fieldLink RJ2 44 "java/lang/StringUTF16" "$assertionsDisabled" "Z", .fieldLink RJ2 59 "java/lang/StringUTF16" "HI_BYTE_SHIFT" "I", .fieldLink RJ2 63 "java/lang/StringUTF16" "LO_BYTE_SHIFT" "I"])
def wsJ0_charAt_5068e_r1 : List Cond := [Cond.fieldLink RJ0 9 "java/lang/String" "value" "[B", Cond.methodLink RJ0 492 yJ0_isLatin1_aae02, Cond.instanceMethod yJ0_isLatin1_aae02, Cond.selects RJ0 yJ0_isLatin1_aae02 yJ0_isLatin1_aae02, Cond.initialized RJ0, Cond.code yJ0_isLatin1_aae02 cJ0_isLatin1_aae02 1 (some .boolean), Cond.fieldLink RJ0 38 "java/lang/String" "COMPACT_STRINGS" "Z", Cond.fieldLink RJ0 15 "java/lang/String" "coder" "B", Cond.methodLink RJ0 495 yJ1_charAt_3b067, Cond.static yJ1_charAt_3b067, Cond.initialized RJ1, Cond.code yJ1_charAt_3b067 cJ1_charAt_3b067 2 (some .char), Cond.methodLink RJ1 9 yJ0_checkIndex_df160, Cond.static yJ0_checkIndex_df160, Cond.code yJ0_checkIndex_df160 cJ0_checkIndex_df160 2 none, Cond.fieldLink RJ0 1053 "jdk/internal/util/Preconditions" "SIOOBE_FORMATTER" "Ljava/util/function/BiFunction;", Cond.methodLink RJ0 1059 yJ3_checkIndex_8e157, Cond.static yJ3_checkIndex_8e157, Cond.initialized RJ3, Cond.code yJ3_checkIndex_8e157 cJ3_checkIndex_8e157 3 (some .int), Cond.methodLink RJ0 498 yJ2_charAt_3b067, Cond.static yJ2_charAt_3b067, Cond.initialized RJ2, Cond.code yJ2_charAt_3b067 cJ2_charAt_3b067 2 (some .char)]
def wsJ0_charAt_5068e_r2 : List Cond := [Cond.methodLink RJ2 67 yJ2_checkIndex_2214a, Cond.static yJ2_checkIndex_2214a, Cond.code yJ2_checkIndex_2214a cJ2_checkIndex_2214a 2 none, Cond.methodLink RJ2 48 yJ2_length_9d52b, Cond.static yJ2_length_9d52b, Cond.code yJ2_length_9d52b cJ2_length_9d52b 1 (some .int), Cond.methodLink RJ2 414 yJ0_checkIndex_df160, Cond.methodLink RJ2 71 yJ2_getChar_3b067, Cond.static yJ2_getChar_3b067, Cond.code yJ2_getChar_3b067 cJ2_getChar_3b067 2 (some .char), Cond.fieldLink RJ2 44 "java/lang/StringUTF16" "$assertionsDisabled" "Z", Cond.fieldLink RJ2 59 "java/lang/StringUTF16" "HI_BYTE_SHIFT" "I", Cond.fieldLink RJ2 63 "java/lang/StringUTF16" "LO_BYTE_SHIFT" "I"]
def wsJ0_charAt_5068e : List Cond := .code yJ0_charAt_5068e cJ0_charAt_5068e 2 (some .char) :: ((wsJ0_charAt_5068e_r1 ++ wsJ0_charAt_5068e_r2))
def wsX5_isClosedText_r1 : List Cond := [Cond.fieldLink RX5 7 "ShapeJudge$Tokens" "tape" "LShapeJudge$Tape;", Cond.fieldLink RX5 26 "ShapeJudge$Tokens" "place" "I", Cond.methodLink RX5 49 yJ0_length_8abf5, Cond.instanceMethod yJ0_length_8abf5, Cond.selects RJ0 yJ0_length_8abf5 yJ0_length_8abf5, Cond.initialized RJ0, Cond.code yJ0_length_8abf5 cJ0_length_8abf5 1 (some .int), Cond.fieldLink RJ0 9 "java/lang/String" "value" "[B", Cond.methodLink RJ0 335 yJ0_coder_7d493, Cond.instanceMethod yJ0_coder_7d493, Cond.selects RJ0 yJ0_coder_7d493 yJ0_coder_7d493, Cond.code yJ0_coder_7d493 cJ0_coder_7d493 1 (some .byte), Cond.fieldLink RJ0 38 "java/lang/String" "COMPACT_STRINGS" "Z", Cond.fieldLink RJ0 15 "java/lang/String" "coder" "B", Cond.methodLink RX5 22 yX3_byteAt, Cond.instanceMethod yX3_byteAt, Cond.selects RX3 yX3_byteAt yX3_byteAt, Cond.initialized RX3, Cond.code yX3_byteAt cX3_byteAt 2 (some .int), Cond.fieldLink RX3 15 "ShapeJudge$Tape" "length" "I", Cond.fieldLink RX3 9 "ShapeJudge$Tape" "bytes" "[B", Cond.methodLink RX5 60 yJ0_charAt_5068e, Cond.instanceMethod yJ0_charAt_5068e, Cond.selects RJ0 yJ0_charAt_5068e yJ0_charAt_5068e]
def wsX5_isClosedText_r2 : List Cond := [Cond.code yJ0_charAt_5068e cJ0_charAt_5068e 2 (some .char), Cond.methodLink RJ0 492 yJ0_isLatin1_aae02, Cond.instanceMethod yJ0_isLatin1_aae02, Cond.selects RJ0 yJ0_isLatin1_aae02 yJ0_isLatin1_aae02, Cond.code yJ0_isLatin1_aae02 cJ0_isLatin1_aae02 1 (some .boolean), Cond.methodLink RJ0 495 yJ1_charAt_3b067, Cond.static yJ1_charAt_3b067, Cond.initialized RJ1, Cond.code yJ1_charAt_3b067 cJ1_charAt_3b067 2 (some .char), Cond.methodLink RJ1 9 yJ0_checkIndex_df160, Cond.static yJ0_checkIndex_df160, Cond.code yJ0_checkIndex_df160 cJ0_checkIndex_df160 2 none, Cond.fieldLink RJ0 1053 "jdk/internal/util/Preconditions" "SIOOBE_FORMATTER" "Ljava/util/function/BiFunction;", Cond.methodLink RJ0 1059 yJ3_checkIndex_8e157, Cond.static yJ3_checkIndex_8e157, Cond.initialized RJ3, Cond.code yJ3_checkIndex_8e157 cJ3_checkIndex_8e157 3 (some .int), Cond.methodLink RJ0 498 yJ2_charAt_3b067, Cond.static yJ2_charAt_3b067, Cond.initialized RJ2, Cond.code yJ2_charAt_3b067 cJ2_charAt_3b067 2 (some .char), Cond.methodLink RJ2 67 yJ2_checkIndex_2214a, Cond.static yJ2_checkIndex_2214a, Cond.code yJ2_checkIndex_2214a cJ2_checkIndex_2214a 2 none]
def wsX5_isClosedText_r3 : List Cond := [Cond.methodLink RJ2 48 yJ2_length_9d52b, Cond.static yJ2_length_9d52b, Cond.code yJ2_length_9d52b cJ2_length_9d52b 1 (some .int), Cond.methodLink RJ2 414 yJ0_checkIndex_df160, Cond.methodLink RJ2 71 yJ2_getChar_3b067, Cond.static yJ2_getChar_3b067, Cond.code yJ2_getChar_3b067 cJ2_getChar_3b067 2 (some .char), Cond.fieldLink RJ2 44 "java/lang/StringUTF16" "$assertionsDisabled" "Z", Cond.fieldLink RJ2 59 "java/lang/StringUTF16" "HI_BYTE_SHIFT" "I", Cond.fieldLink RJ2 63 "java/lang/StringUTF16" "LO_BYTE_SHIFT" "I"]
def wsX5_isClosedText : List Cond := .code yX5_isClosedText cX5_isClosedText 2 (some .boolean) :: ((wsX5_isClosedText_r1 ++ (wsX5_isClosedText_r2 ++ wsX5_isClosedText_r3)) ++ wsX50 ++ wsX30)
def wsX5_isSign : List Cond := .code yX5_isSign cX5_isSign 1 (some .boolean) :: ([])
def wsX5_advance_r1 : List Cond := [Cond.fieldLink RX5 13 "ShapeJudge$Tokens" "next" "I", Cond.fieldLink RX5 7 "ShapeJudge$Tokens" "tape" "LShapeJudge$Tape;", Cond.fieldLink RX5 17 "ShapeJudge$Tape" "length" "I", Cond.fieldLink RX5 26 "ShapeJudge$Tokens" "place" "I", Cond.fieldLink RX5 33 "ShapeJudge$Tokens" "number" "I", Cond.methodLink RX5 22 yX3_byteAt, Cond.instanceMethod yX3_byteAt, Cond.selects RX3 yX3_byteAt yX3_byteAt, Cond.initialized RX3, Cond.code yX3_byteAt cX3_byteAt 2 (some .int), Cond.fieldLink RX3 15 "ShapeJudge$Tape" "length" "I", Cond.fieldLink RX3 9 "ShapeJudge$Tape" "bytes" "[B", Cond.methodLink RX5 29 yX5_become, Cond.instanceMethod yX5_become, Cond.selects RX5 yX5_become yX5_become, Cond.initialized RX5, Cond.code yX5_become cX5_become 3 none, Cond.fieldLink RX5 57 "ShapeJudge$Tokens" "kind" "I", Cond.methodLink RX5 36 yX5_isFigure, Cond.static yX5_isFigure, Cond.code yX5_isFigure cX5_isFigure 1 (some .boolean), Cond.methodLink RX5 40 yX5_readNumber, Cond.instanceMethod yX5_readNumber, Cond.selects RX5 yX5_readNumber yX5_readNumber]
def wsX5_advance_r2 : List Cond := [Cond.code yX5_readNumber cX5_readNumber 5 none, Cond.methodLink RX5 43 yX5_isClosedText, Cond.instanceMethod yX5_isClosedText, Cond.selects RX5 yX5_isClosedText yX5_isClosedText, Cond.code yX5_isClosedText cX5_isClosedText 2 (some .boolean), Cond.methodLink RX5 49 yJ0_length_8abf5, Cond.instanceMethod yJ0_length_8abf5, Cond.selects RJ0 yJ0_length_8abf5 yJ0_length_8abf5, Cond.initialized RJ0, Cond.code yJ0_length_8abf5 cJ0_length_8abf5 1 (some .int), Cond.fieldLink RJ0 9 "java/lang/String" "value" "[B", Cond.methodLink RJ0 335 yJ0_coder_7d493, Cond.instanceMethod yJ0_coder_7d493, Cond.selects RJ0 yJ0_coder_7d493 yJ0_coder_7d493, Cond.code yJ0_coder_7d493 cJ0_coder_7d493 1 (some .byte), Cond.fieldLink RJ0 38 "java/lang/String" "COMPACT_STRINGS" "Z", Cond.fieldLink RJ0 15 "java/lang/String" "coder" "B", Cond.methodLink RX5 60 yJ0_charAt_5068e, Cond.instanceMethod yJ0_charAt_5068e, Cond.selects RJ0 yJ0_charAt_5068e yJ0_charAt_5068e, Cond.code yJ0_charAt_5068e cJ0_charAt_5068e 2 (some .char), Cond.methodLink RJ0 492 yJ0_isLatin1_aae02, Cond.instanceMethod yJ0_isLatin1_aae02, Cond.selects RJ0 yJ0_isLatin1_aae02 yJ0_isLatin1_aae02]
def wsX5_advance_r3 : List Cond := [Cond.code yJ0_isLatin1_aae02 cJ0_isLatin1_aae02 1 (some .boolean), Cond.methodLink RJ0 495 yJ1_charAt_3b067, Cond.static yJ1_charAt_3b067, Cond.initialized RJ1, Cond.code yJ1_charAt_3b067 cJ1_charAt_3b067 2 (some .char), Cond.methodLink RJ1 9 yJ0_checkIndex_df160, Cond.static yJ0_checkIndex_df160, Cond.code yJ0_checkIndex_df160 cJ0_checkIndex_df160 2 none, Cond.fieldLink RJ0 1053 "jdk/internal/util/Preconditions" "SIOOBE_FORMATTER" "Ljava/util/function/BiFunction;", Cond.methodLink RJ0 1059 yJ3_checkIndex_8e157, Cond.static yJ3_checkIndex_8e157, Cond.initialized RJ3, Cond.code yJ3_checkIndex_8e157 cJ3_checkIndex_8e157 3 (some .int), Cond.methodLink RJ0 498 yJ2_charAt_3b067, Cond.static yJ2_charAt_3b067, Cond.initialized RJ2, Cond.code yJ2_charAt_3b067 cJ2_charAt_3b067 2 (some .char), Cond.methodLink RJ2 67 yJ2_checkIndex_2214a, Cond.static yJ2_checkIndex_2214a, Cond.code yJ2_checkIndex_2214a cJ2_checkIndex_2214a 2 none, Cond.methodLink RJ2 48 yJ2_length_9d52b, Cond.static yJ2_length_9d52b, Cond.code yJ2_length_9d52b cJ2_length_9d52b 1 (some .int), Cond.methodLink RJ2 414 yJ0_checkIndex_df160]
def wsX5_advance_r4 : List Cond := [Cond.methodLink RJ2 71 yJ2_getChar_3b067, Cond.static yJ2_getChar_3b067, Cond.code yJ2_getChar_3b067 cJ2_getChar_3b067 2 (some .char), Cond.fieldLink RJ2 44 "java/lang/StringUTF16" "$assertionsDisabled" "Z", Cond.fieldLink RJ2 59 "java/lang/StringUTF16" "HI_BYTE_SHIFT" "I", Cond.fieldLink RJ2 63 "java/lang/StringUTF16" "LO_BYTE_SHIFT" "I", Cond.methodLink RX5 54 yX5_isSign, Cond.static yX5_isSign, Cond.code yX5_isSign cX5_isSign 1 (some .boolean)]
def wsX5_advance : List Cond := .code yX5_advance cX5_advance 3 none :: ((wsX5_advance_r1 ++ (wsX5_advance_r2 ++ (wsX5_advance_r3 ++ wsX5_advance_r4))) ++ wsX50 ++ wsX30)
def wsX4_fail : List Cond := .code yX4_fail cX4_fail 2 none :: ([.fieldLink RX4 45 "ShapeJudge$TextReader" "faultKind" "I", .fieldLink RX4 14 "ShapeJudge$TextReader" "tokens" "LShapeJudge$Tokens;", .fieldLink RX4 67 "ShapeJudge$Tokens" "place" "I", .fieldLink RX4 48 "ShapeJudge$TextReader" "faultPlace" "I"] ++ wsX40 ++ wsX50)
def wsX4_takeShapeWord_r1 : List Cond := [Cond.fieldLink RX4 14 "ShapeJudge$TextReader" "tokens" "LShapeJudge$Tokens;", Cond.fieldLink RX4 54 "ShapeJudge$Tokens" "kind" "I", Cond.fieldLink RX4 20 "ShapeJudge$TextReader" "book" "LShapeJudge$Book;", Cond.fieldLink RX4 104 "ShapeJudge$Book" "shapeCount" "I", Cond.fieldLink RX4 32 "ShapeJudge$TextReader" "state" "I", Cond.fieldLink RX4 107 "ShapeJudge$Tokens" "number" "I", Cond.methodLink RX4 57 yX4_fail, Cond.instanceMethod yX4_fail, Cond.selects RX4 yX4_fail yX4_fail, Cond.initialized RX4, Cond.code yX4_fail cX4_fail 2 none, Cond.fieldLink RX4 45 "ShapeJudge$TextReader" "faultKind" "I", Cond.fieldLink RX4 67 "ShapeJudge$Tokens" "place" "I", Cond.fieldLink RX4 48 "ShapeJudge$TextReader" "faultPlace" "I", Cond.methodLink RX4 110 yX0_shapeOf, Cond.instanceMethod yX0_shapeOf, Cond.selects RX0 yX0_shapeOf yX0_shapeOf, Cond.initialized RX0, Cond.code yX0_shapeOf cX0_shapeOf 3 (some .int), Cond.fieldLink RX0 52 "ShapeJudge$Book" "shapeCount" "I", Cond.fieldLink RX0 9 "ShapeJudge$Book" "word" "[I", Cond.methodLink RX4 114 yX0_openShape, Cond.instanceMethod yX0_openShape, Cond.selects RX0 yX0_openShape yX0_openShape]
def wsX4_takeShapeWord_r2 : List Cond := [Cond.code yX0_openShape cX0_openShape 3 none, Cond.fieldLink RX0 15 "ShapeJudge$Book" "partCount" "[I", Cond.fieldLink RX0 18 "ShapeJudge$Book" "closed" "[Z", Cond.fieldLink RX0 22 "ShapeJudge$Book" "names" "[I", Cond.fieldLink RX0 25 "ShapeJudge$Book" "reach" "[I", Cond.fieldLink RX0 28 "ShapeJudge$Book" "level" "[I", Cond.fieldLink RX0 31 "ShapeJudge$Book" "firstStep" "[I", Cond.fieldLink RX0 60 "ShapeJudge$Book" "stepCount" "I"]
def wsX4_takeShapeWord : List Cond := .code yX4_takeShapeWord cX4_takeShapeWord 1 none :: ((wsX4_takeShapeWord_r1 ++ wsX4_takeShapeWord_r2) ++ wsX40 ++ wsX50 ++ wsX00)
def wsX4_takeSign : List Cond := .code yX4_takeSign cX4_takeSign 3 none :: ([.fieldLink RX4 14 "ShapeJudge$TextReader" "tokens" "LShapeJudge$Tokens;", .fieldLink RX4 54 "ShapeJudge$Tokens" "kind" "I", .fieldLink RX4 32 "ShapeJudge$TextReader" "state" "I", .methodLink RX4 57 yX4_fail, .instanceMethod yX4_fail, .selects RX4 yX4_fail yX4_fail, .initialized RX4, .code yX4_fail cX4_fail 2 none, .fieldLink RX4 45 "ShapeJudge$TextReader" "faultKind" "I", .fieldLink RX4 67 "ShapeJudge$Tokens" "place" "I", .fieldLink RX4 48 "ShapeJudge$TextReader" "faultPlace" "I"] ++ wsX40 ++ wsX50)
def wsX4_takeOpening : List Cond := .code yX4_takeOpening cX4_takeOpening 1 none :: ([.fieldLink RX4 36 "ShapeJudge$TextReader" "depth" "I", .fieldLink RX4 32 "ShapeJudge$TextReader" "state" "I", .methodLink RX4 57 yX4_fail, .instanceMethod yX4_fail, .selects RX4 yX4_fail yX4_fail, .initialized RX4, .code yX4_fail cX4_fail 2 none, .fieldLink RX4 45 "ShapeJudge$TextReader" "faultKind" "I", .fieldLink RX4 14 "ShapeJudge$TextReader" "tokens" "LShapeJudge$Tokens;", .fieldLink RX4 67 "ShapeJudge$Tokens" "place" "I", .fieldLink RX4 48 "ShapeJudge$TextReader" "faultPlace" "I"] ++ wsX40 ++ wsX50)
def wsX4_takeOne_r1 : List Cond := [Cond.fieldLink RX4 14 "ShapeJudge$TextReader" "tokens" "LShapeJudge$Tokens;", Cond.fieldLink RX4 54 "ShapeJudge$Tokens" "kind" "I", Cond.fieldLink RX4 107 "ShapeJudge$Tokens" "number" "I", Cond.fieldLink RX4 20 "ShapeJudge$TextReader" "book" "LShapeJudge$Book;", Cond.fieldLink RX4 32 "ShapeJudge$TextReader" "state" "I", Cond.methodLink RX4 123 yX4_takeOpening, Cond.instanceMethod yX4_takeOpening, Cond.selects RX4 yX4_takeOpening yX4_takeOpening, Cond.initialized RX4, Cond.code yX4_takeOpening cX4_takeOpening 1 none, Cond.fieldLink RX4 36 "ShapeJudge$TextReader" "depth" "I", Cond.methodLink RX4 57 yX4_fail, Cond.instanceMethod yX4_fail, Cond.selects RX4 yX4_fail yX4_fail, Cond.code yX4_fail cX4_fail 2 none, Cond.fieldLink RX4 45 "ShapeJudge$TextReader" "faultKind" "I", Cond.fieldLink RX4 67 "ShapeJudge$Tokens" "place" "I", Cond.fieldLink RX4 48 "ShapeJudge$TextReader" "faultPlace" "I", Cond.methodLink RX4 126 yX0_hasRoomForPart, Cond.instanceMethod yX0_hasRoomForPart, Cond.selects RX0 yX0_hasRoomForPart yX0_hasRoomForPart, Cond.initialized RX0, Cond.code yX0_hasRoomForPart cX0_hasRoomForPart 1 (some .boolean), Cond.fieldLink RX0 52 "ShapeJudge$Book" "shapeCount" "I"]
def wsX4_takeOne_r2 : List Cond := [Cond.fieldLink RX0 15 "ShapeJudge$Book" "partCount" "[I", Cond.methodLink RX0 56 yX0_hasShape, Cond.instanceMethod yX0_hasShape, Cond.selects RX0 yX0_hasShape yX0_hasShape, Cond.code yX0_hasShape cX0_hasShape 2 (some .boolean), Cond.methodLink RX4 130 yX0_addPart, Cond.instanceMethod yX0_addPart, Cond.selects RX0 yX0_addPart yX0_addPart, Cond.code yX0_addPart cX0_addPart 4 none, Cond.fieldLink RX0 63 "ShapeJudge$Book" "lastSlot" "I", Cond.fieldLink RX0 37 "ShapeJudge$Book" "partName" "[I", Cond.fieldLink RX0 22 "ShapeJudge$Book" "names" "[I", Cond.methodLink RX0 66 yX0_hasRoomForPart, Cond.methodLink RX0 70 yX0_addStep, Cond.instanceMethod yX0_addStep, Cond.selects RX0 yX0_addStep yX0_addStep, Cond.code yX0_addStep cX0_addStep 3 none, Cond.fieldLink RX0 60 "ShapeJudge$Book" "stepCount" "I", Cond.fieldLink RX0 34 "ShapeJudge$Book" "steps" "[I", Cond.fieldLink RX0 31 "ShapeJudge$Book" "firstStep" "[I"]
def wsX4_takeOne : List Cond := .code yX4_takeOne cX4_takeOne 1 none :: ((wsX4_takeOne_r1 ++ wsX4_takeOne_r2) ++ wsX40 ++ wsX50 ++ wsX00)
def wsX4_takeShapeEnd_r1 : List Cond := [Cond.fieldLink RX4 14 "ShapeJudge$TextReader" "tokens" "LShapeJudge$Tokens;", Cond.fieldLink RX4 54 "ShapeJudge$Tokens" "kind" "I", Cond.fieldLink RX4 20 "ShapeJudge$TextReader" "book" "LShapeJudge$Book;", Cond.fieldLink RX4 32 "ShapeJudge$TextReader" "state" "I", Cond.methodLink RX4 120 yX0_closeShape, Cond.instanceMethod yX0_closeShape, Cond.selects RX0 yX0_closeShape yX0_closeShape, Cond.initialized RX0, Cond.code yX0_closeShape cX0_closeShape 1 none, Cond.fieldLink RX0 52 "ShapeJudge$Book" "shapeCount" "I", Cond.fieldLink RX0 18 "ShapeJudge$Book" "closed" "[Z", Cond.methodLink RX0 56 yX0_hasShape, Cond.instanceMethod yX0_hasShape, Cond.selects RX0 yX0_hasShape yX0_hasShape, Cond.code yX0_hasShape cX0_hasShape 2 (some .boolean), Cond.methodLink RX4 73 yX4_takeSign, Cond.instanceMethod yX4_takeSign, Cond.selects RX4 yX4_takeSign yX4_takeSign, Cond.initialized RX4, Cond.code yX4_takeSign cX4_takeSign 3 none, Cond.methodLink RX4 57 yX4_fail, Cond.instanceMethod yX4_fail, Cond.selects RX4 yX4_fail yX4_fail, Cond.code yX4_fail cX4_fail 2 none]
def wsX4_takeShapeEnd_r2 : List Cond := [Cond.fieldLink RX4 45 "ShapeJudge$TextReader" "faultKind" "I", Cond.fieldLink RX4 67 "ShapeJudge$Tokens" "place" "I", Cond.fieldLink RX4 48 "ShapeJudge$TextReader" "faultPlace" "I"]
def wsX4_takeShapeEnd : List Cond := .code yX4_takeShapeEnd cX4_takeShapeEnd 1 none :: ((wsX4_takeShapeEnd_r1 ++ wsX4_takeShapeEnd_r2) ++ wsX40 ++ wsX50 ++ wsX00)
def wsX4_takeBody_r1 : List Cond := [Cond.fieldLink RX4 14 "ShapeJudge$TextReader" "tokens" "LShapeJudge$Tokens;", Cond.fieldLink RX4 54 "ShapeJudge$Tokens" "kind" "I", Cond.methodLink RX4 80 yX4_takeOne, Cond.instanceMethod yX4_takeOne, Cond.selects RX4 yX4_takeOne yX4_takeOne, Cond.initialized RX4, Cond.code yX4_takeOne cX4_takeOne 1 none, Cond.fieldLink RX4 107 "ShapeJudge$Tokens" "number" "I", Cond.fieldLink RX4 20 "ShapeJudge$TextReader" "book" "LShapeJudge$Book;", Cond.fieldLink RX4 32 "ShapeJudge$TextReader" "state" "I", Cond.methodLink RX4 123 yX4_takeOpening, Cond.instanceMethod yX4_takeOpening, Cond.selects RX4 yX4_takeOpening yX4_takeOpening, Cond.code yX4_takeOpening cX4_takeOpening 1 none, Cond.fieldLink RX4 36 "ShapeJudge$TextReader" "depth" "I", Cond.methodLink RX4 57 yX4_fail, Cond.instanceMethod yX4_fail, Cond.selects RX4 yX4_fail yX4_fail, Cond.code yX4_fail cX4_fail 2 none, Cond.fieldLink RX4 45 "ShapeJudge$TextReader" "faultKind" "I", Cond.fieldLink RX4 67 "ShapeJudge$Tokens" "place" "I", Cond.fieldLink RX4 48 "ShapeJudge$TextReader" "faultPlace" "I", Cond.methodLink RX4 126 yX0_hasRoomForPart, Cond.instanceMethod yX0_hasRoomForPart]
def wsX4_takeBody_r2 : List Cond := [Cond.selects RX0 yX0_hasRoomForPart yX0_hasRoomForPart, Cond.initialized RX0, Cond.code yX0_hasRoomForPart cX0_hasRoomForPart 1 (some .boolean), Cond.fieldLink RX0 52 "ShapeJudge$Book" "shapeCount" "I", Cond.fieldLink RX0 15 "ShapeJudge$Book" "partCount" "[I", Cond.methodLink RX0 56 yX0_hasShape, Cond.instanceMethod yX0_hasShape, Cond.selects RX0 yX0_hasShape yX0_hasShape, Cond.code yX0_hasShape cX0_hasShape 2 (some .boolean), Cond.methodLink RX4 130 yX0_addPart, Cond.instanceMethod yX0_addPart, Cond.selects RX0 yX0_addPart yX0_addPart, Cond.code yX0_addPart cX0_addPart 4 none, Cond.fieldLink RX0 63 "ShapeJudge$Book" "lastSlot" "I", Cond.fieldLink RX0 37 "ShapeJudge$Book" "partName" "[I", Cond.fieldLink RX0 22 "ShapeJudge$Book" "names" "[I", Cond.methodLink RX0 66 yX0_hasRoomForPart, Cond.methodLink RX0 70 yX0_addStep, Cond.instanceMethod yX0_addStep, Cond.selects RX0 yX0_addStep yX0_addStep, Cond.code yX0_addStep cX0_addStep 3 none, Cond.fieldLink RX0 60 "ShapeJudge$Book" "stepCount" "I", Cond.fieldLink RX0 34 "ShapeJudge$Book" "steps" "[I", Cond.fieldLink RX0 31 "ShapeJudge$Book" "firstStep" "[I"]
def wsX4_takeBody_r3 : List Cond := [Cond.methodLink RX4 117 yX4_takeShapeEnd, Cond.instanceMethod yX4_takeShapeEnd, Cond.selects RX4 yX4_takeShapeEnd yX4_takeShapeEnd, Cond.code yX4_takeShapeEnd cX4_takeShapeEnd 1 none, Cond.methodLink RX4 120 yX0_closeShape, Cond.instanceMethod yX0_closeShape, Cond.selects RX0 yX0_closeShape yX0_closeShape, Cond.code yX0_closeShape cX0_closeShape 1 none, Cond.fieldLink RX0 18 "ShapeJudge$Book" "closed" "[Z", Cond.methodLink RX4 73 yX4_takeSign, Cond.instanceMethod yX4_takeSign, Cond.selects RX4 yX4_takeSign yX4_takeSign, Cond.code yX4_takeSign cX4_takeSign 3 none]
def wsX4_takeBody : List Cond := .code yX4_takeBody cX4_takeBody 1 none :: ((wsX4_takeBody_r1 ++ (wsX4_takeBody_r2 ++ wsX4_takeBody_r3)) ++ wsX40 ++ wsX50 ++ wsX00)
def wsX4_takeTest_r1 : List Cond := [Cond.fieldLink RX4 14 "ShapeJudge$TextReader" "tokens" "LShapeJudge$Tokens;", Cond.fieldLink RX4 54 "ShapeJudge$Tokens" "kind" "I", Cond.fieldLink RX4 20 "ShapeJudge$TextReader" "book" "LShapeJudge$Book;", Cond.fieldLink RX4 32 "ShapeJudge$TextReader" "state" "I", Cond.fieldLink RX4 137 "ShapeJudge$TextReader" "test" "I", Cond.fieldLink RX4 107 "ShapeJudge$Tokens" "number" "I", Cond.fieldLink RX4 140 "ShapeJudge$TextReader" "firstNumber" "I", Cond.methodLink RX4 133 yX0_tellPart, Cond.instanceMethod yX0_tellPart, Cond.selects RX0 yX0_tellPart yX0_tellPart, Cond.initialized RX0, Cond.code yX0_tellPart cX0_tellPart 5 none, Cond.fieldLink RX0 40 "ShapeJudge$Book" "partTest" "[I", Cond.fieldLink RX0 63 "ShapeJudge$Book" "lastSlot" "I", Cond.fieldLink RX0 43 "ShapeJudge$Book" "partFirst" "[I", Cond.fieldLink RX0 46 "ShapeJudge$Book" "partSecond" "[I", Cond.fieldLink RX0 49 "ShapeJudge$Book" "partPlace" "[I", Cond.methodLink RX4 57 yX4_fail, Cond.instanceMethod yX4_fail, Cond.selects RX4 yX4_fail yX4_fail, Cond.initialized RX4, Cond.code yX4_fail cX4_fail 2 none, Cond.fieldLink RX4 45 "ShapeJudge$TextReader" "faultKind" "I", Cond.fieldLink RX4 67 "ShapeJudge$Tokens" "place" "I"]
def wsX4_takeTest_r2 : List Cond := [Cond.fieldLink RX4 48 "ShapeJudge$TextReader" "faultPlace" "I"]
def wsX4_takeTest : List Cond := .code yX4_takeTest cX4_takeTest 1 none :: ((wsX4_takeTest_r1 ++ wsX4_takeTest_r2) ++ wsX40 ++ wsX50 ++ wsX00)
def wsX4_takeReference : List Cond := .code yX4_takeReference cX4_takeReference 1 none :: ([.fieldLink RX4 14 "ShapeJudge$TextReader" "tokens" "LShapeJudge$Tokens;", .fieldLink RX4 54 "ShapeJudge$Tokens" "kind" "I", .fieldLink RX4 20 "ShapeJudge$TextReader" "book" "LShapeJudge$Book;", .fieldLink RX4 137 "ShapeJudge$TextReader" "test" "I", .fieldLink RX4 107 "ShapeJudge$Tokens" "number" "I", .fieldLink RX4 67 "ShapeJudge$Tokens" "place" "I", .fieldLink RX4 32 "ShapeJudge$TextReader" "state" "I", .methodLink RX4 133 yX0_tellPart, .instanceMethod yX0_tellPart, .selects RX0 yX0_tellPart yX0_tellPart, .initialized RX0, .code yX0_tellPart cX0_tellPart 5 none, .fieldLink RX0 40 "ShapeJudge$Book" "partTest" "[I", .fieldLink RX0 63 "ShapeJudge$Book" "lastSlot" "I", .fieldLink RX0 43 "ShapeJudge$Book" "partFirst" "[I", .fieldLink RX0 46 "ShapeJudge$Book" "partSecond" "[I", .fieldLink RX0 49 "ShapeJudge$Book" "partPlace" "[I", .methodLink RX4 57 yX4_fail, .instanceMethod yX4_fail, .selects RX4 yX4_fail yX4_fail, .initialized RX4, .code yX4_fail cX4_fail 2 none, .fieldLink RX4 45 "ShapeJudge$TextReader" "faultKind" "I", .fieldLink RX4 48 "ShapeJudge$TextReader" "faultPlace" "I"] ++ wsX40 ++ wsX50 ++ wsX00)
def wsX4_isNumberFrom : List Cond := .code yX4_isNumberFrom cX4_isNumberFrom 3 (some .boolean) :: ([.fieldLink RX4 14 "ShapeJudge$TextReader" "tokens" "LShapeJudge$Tokens;", .fieldLink RX4 54 "ShapeJudge$Tokens" "kind" "I", .fieldLink RX4 107 "ShapeJudge$Tokens" "number" "I", .fieldLink RX4 45 "ShapeJudge$TextReader" "faultKind" "I", .methodLink RX4 57 yX4_fail, .instanceMethod yX4_fail, .selects RX4 yX4_fail yX4_fail, .initialized RX4, .code yX4_fail cX4_fail 2 none, .fieldLink RX4 67 "ShapeJudge$Tokens" "place" "I", .fieldLink RX4 48 "ShapeJudge$TextReader" "faultPlace" "I"] ++ wsX40 ++ wsX50)
def wsX4_takeLastNumber_r1 : List Cond := [Cond.fieldLink RX4 140 "ShapeJudge$TextReader" "firstNumber" "I", Cond.constant RX4 145 (2147483647), Cond.fieldLink RX4 20 "ShapeJudge$TextReader" "book" "LShapeJudge$Book;", Cond.fieldLink RX4 14 "ShapeJudge$TextReader" "tokens" "LShapeJudge$Tokens;", Cond.fieldLink RX4 107 "ShapeJudge$Tokens" "number" "I", Cond.fieldLink RX4 32 "ShapeJudge$TextReader" "state" "I", Cond.methodLink RX4 146 yX4_isNumberFrom, Cond.instanceMethod yX4_isNumberFrom, Cond.selects RX4 yX4_isNumberFrom yX4_isNumberFrom, Cond.initialized RX4, Cond.code yX4_isNumberFrom cX4_isNumberFrom 3 (some .boolean), Cond.fieldLink RX4 54 "ShapeJudge$Tokens" "kind" "I", Cond.fieldLink RX4 45 "ShapeJudge$TextReader" "faultKind" "I", Cond.methodLink RX4 57 yX4_fail, Cond.instanceMethod yX4_fail, Cond.selects RX4 yX4_fail yX4_fail, Cond.code yX4_fail cX4_fail 2 none, Cond.fieldLink RX4 67 "ShapeJudge$Tokens" "place" "I", Cond.fieldLink RX4 48 "ShapeJudge$TextReader" "faultPlace" "I", Cond.methodLink RX4 133 yX0_tellPart, Cond.instanceMethod yX0_tellPart, Cond.selects RX0 yX0_tellPart yX0_tellPart, Cond.initialized RX0, Cond.code yX0_tellPart cX0_tellPart 5 none]
def wsX4_takeLastNumber_r2 : List Cond := [Cond.fieldLink RX0 40 "ShapeJudge$Book" "partTest" "[I", Cond.fieldLink RX0 63 "ShapeJudge$Book" "lastSlot" "I", Cond.fieldLink RX0 43 "ShapeJudge$Book" "partFirst" "[I", Cond.fieldLink RX0 46 "ShapeJudge$Book" "partSecond" "[I", Cond.fieldLink RX0 49 "ShapeJudge$Book" "partPlace" "[I"]
def wsX4_takeLastNumber : List Cond := .code yX4_takeLastNumber cX4_takeLastNumber 1 none :: ((wsX4_takeLastNumber_r1 ++ wsX4_takeLastNumber_r2) ++ wsX40 ++ wsX50 ++ wsX00)
def wsX4_settleComma : List Cond := .code yX4_settleComma cX4_settleComma 1 none :: ([.fieldLink RX4 39 "ShapeJudge$TextReader" "commas" "I", .fieldLink RX4 36 "ShapeJudge$TextReader" "depth" "I", .fieldLink RX4 20 "ShapeJudge$TextReader" "book" "LShapeJudge$Book;", .methodLink RX4 150 yX0_addStep, .instanceMethod yX0_addStep, .selects RX0 yX0_addStep yX0_addStep, .initialized RX0, .code yX0_addStep cX0_addStep 3 none, .fieldLink RX0 60 "ShapeJudge$Book" "stepCount" "I", .fieldLink RX0 34 "ShapeJudge$Book" "steps" "[I", .fieldLink RX0 52 "ShapeJudge$Book" "shapeCount" "I", .fieldLink RX0 31 "ShapeJudge$Book" "firstStep" "[I", .methodLink RX0 56 yX0_hasShape, .instanceMethod yX0_hasShape, .selects RX0 yX0_hasShape yX0_hasShape, .code yX0_hasShape cX0_hasShape 2 (some .boolean)] ++ wsX40 ++ wsX00)
def wsX4_settleBar : List Cond := .code yX4_settleBar cX4_settleBar 1 none :: ([.fieldLink RX4 42 "ShapeJudge$TextReader" "bars" "I", .fieldLink RX4 36 "ShapeJudge$TextReader" "depth" "I", .fieldLink RX4 20 "ShapeJudge$TextReader" "book" "LShapeJudge$Book;", .methodLink RX4 150 yX0_addStep, .instanceMethod yX0_addStep, .selects RX0 yX0_addStep yX0_addStep, .initialized RX0, .code yX0_addStep cX0_addStep 3 none, .fieldLink RX0 60 "ShapeJudge$Book" "stepCount" "I", .fieldLink RX0 34 "ShapeJudge$Book" "steps" "[I", .fieldLink RX0 52 "ShapeJudge$Book" "shapeCount" "I", .fieldLink RX0 31 "ShapeJudge$Book" "firstStep" "[I", .methodLink RX0 56 yX0_hasShape, .instanceMethod yX0_hasShape, .selects RX0 yX0_hasShape yX0_hasShape, .code yX0_hasShape cX0_hasShape 2 (some .boolean)] ++ wsX40 ++ wsX00)
def wsX4_takeBehindItem_r1 : List Cond := [Cond.fieldLink RX4 14 "ShapeJudge$TextReader" "tokens" "LShapeJudge$Tokens;", Cond.fieldLink RX4 54 "ShapeJudge$Tokens" "kind" "I", Cond.fieldLink RX4 36 "ShapeJudge$TextReader" "depth" "I", Cond.fieldLink RX4 39 "ShapeJudge$TextReader" "commas" "I", Cond.fieldLink RX4 32 "ShapeJudge$TextReader" "state" "I", Cond.fieldLink RX4 42 "ShapeJudge$TextReader" "bars" "I", Cond.methodLink RX4 57 yX4_fail, Cond.instanceMethod yX4_fail, Cond.selects RX4 yX4_fail yX4_fail, Cond.initialized RX4, Cond.code yX4_fail cX4_fail 2 none, Cond.fieldLink RX4 45 "ShapeJudge$TextReader" "faultKind" "I", Cond.fieldLink RX4 67 "ShapeJudge$Tokens" "place" "I", Cond.fieldLink RX4 48 "ShapeJudge$TextReader" "faultPlace" "I", Cond.methodLink RX4 153 yX4_settleComma, Cond.instanceMethod yX4_settleComma, Cond.selects RX4 yX4_settleComma yX4_settleComma, Cond.code yX4_settleComma cX4_settleComma 1 none, Cond.fieldLink RX4 20 "ShapeJudge$TextReader" "book" "LShapeJudge$Book;", Cond.methodLink RX4 150 yX0_addStep, Cond.instanceMethod yX0_addStep, Cond.selects RX0 yX0_addStep yX0_addStep, Cond.initialized RX0, Cond.code yX0_addStep cX0_addStep 3 none]
def wsX4_takeBehindItem_r2 : List Cond := [Cond.fieldLink RX0 60 "ShapeJudge$Book" "stepCount" "I", Cond.fieldLink RX0 34 "ShapeJudge$Book" "steps" "[I", Cond.fieldLink RX0 52 "ShapeJudge$Book" "shapeCount" "I", Cond.fieldLink RX0 31 "ShapeJudge$Book" "firstStep" "[I", Cond.methodLink RX0 56 yX0_hasShape, Cond.instanceMethod yX0_hasShape, Cond.selects RX0 yX0_hasShape yX0_hasShape, Cond.code yX0_hasShape cX0_hasShape 2 (some .boolean), Cond.methodLink RX4 156 yX4_settleBar, Cond.instanceMethod yX4_settleBar, Cond.selects RX4 yX4_settleBar yX4_settleBar, Cond.code yX4_settleBar cX4_settleBar 1 none, Cond.methodLink RX4 117 yX4_takeShapeEnd, Cond.instanceMethod yX4_takeShapeEnd, Cond.selects RX4 yX4_takeShapeEnd yX4_takeShapeEnd, Cond.code yX4_takeShapeEnd cX4_takeShapeEnd 1 none, Cond.methodLink RX4 120 yX0_closeShape, Cond.instanceMethod yX0_closeShape, Cond.selects RX0 yX0_closeShape yX0_closeShape, Cond.code yX0_closeShape cX0_closeShape 1 none, Cond.fieldLink RX0 18 "ShapeJudge$Book" "closed" "[Z", Cond.methodLink RX4 73 yX4_takeSign, Cond.instanceMethod yX4_takeSign, Cond.selects RX4 yX4_takeSign yX4_takeSign]
def wsX4_takeBehindItem_r3 : List Cond := [Cond.code yX4_takeSign cX4_takeSign 3 none]
def wsX4_takeBehindItem : List Cond := .code yX4_takeBehindItem cX4_takeBehindItem 3 none :: ((wsX4_takeBehindItem_r1 ++ (wsX4_takeBehindItem_r2 ++ wsX4_takeBehindItem_r3)) ++ wsX40 ++ wsX50 ++ wsX00)
def wsX4_takeBehindOne_r1 : List Cond := [Cond.fieldLink RX4 14 "ShapeJudge$TextReader" "tokens" "LShapeJudge$Tokens;", Cond.fieldLink RX4 54 "ShapeJudge$Tokens" "kind" "I", Cond.fieldLink RX4 32 "ShapeJudge$TextReader" "state" "I", Cond.methodLink RX4 101 yX4_takeBehindItem, Cond.instanceMethod yX4_takeBehindItem, Cond.selects RX4 yX4_takeBehindItem yX4_takeBehindItem, Cond.initialized RX4, Cond.code yX4_takeBehindItem cX4_takeBehindItem 3 none, Cond.fieldLink RX4 36 "ShapeJudge$TextReader" "depth" "I", Cond.fieldLink RX4 39 "ShapeJudge$TextReader" "commas" "I", Cond.fieldLink RX4 42 "ShapeJudge$TextReader" "bars" "I", Cond.methodLink RX4 57 yX4_fail, Cond.instanceMethod yX4_fail, Cond.selects RX4 yX4_fail yX4_fail, Cond.code yX4_fail cX4_fail 2 none, Cond.fieldLink RX4 45 "ShapeJudge$TextReader" "faultKind" "I", Cond.fieldLink RX4 67 "ShapeJudge$Tokens" "place" "I", Cond.fieldLink RX4 48 "ShapeJudge$TextReader" "faultPlace" "I", Cond.methodLink RX4 153 yX4_settleComma, Cond.instanceMethod yX4_settleComma, Cond.selects RX4 yX4_settleComma yX4_settleComma, Cond.code yX4_settleComma cX4_settleComma 1 none, Cond.fieldLink RX4 20 "ShapeJudge$TextReader" "book" "LShapeJudge$Book;", Cond.methodLink RX4 150 yX0_addStep]
def wsX4_takeBehindOne_r2 : List Cond := [Cond.instanceMethod yX0_addStep, Cond.selects RX0 yX0_addStep yX0_addStep, Cond.initialized RX0, Cond.code yX0_addStep cX0_addStep 3 none, Cond.fieldLink RX0 60 "ShapeJudge$Book" "stepCount" "I", Cond.fieldLink RX0 34 "ShapeJudge$Book" "steps" "[I", Cond.fieldLink RX0 52 "ShapeJudge$Book" "shapeCount" "I", Cond.fieldLink RX0 31 "ShapeJudge$Book" "firstStep" "[I", Cond.methodLink RX0 56 yX0_hasShape, Cond.instanceMethod yX0_hasShape, Cond.selects RX0 yX0_hasShape yX0_hasShape, Cond.code yX0_hasShape cX0_hasShape 2 (some .boolean), Cond.methodLink RX4 156 yX4_settleBar, Cond.instanceMethod yX4_settleBar, Cond.selects RX4 yX4_settleBar yX4_settleBar, Cond.code yX4_settleBar cX4_settleBar 1 none, Cond.methodLink RX4 117 yX4_takeShapeEnd, Cond.instanceMethod yX4_takeShapeEnd, Cond.selects RX4 yX4_takeShapeEnd yX4_takeShapeEnd, Cond.code yX4_takeShapeEnd cX4_takeShapeEnd 1 none, Cond.methodLink RX4 120 yX0_closeShape, Cond.instanceMethod yX0_closeShape, Cond.selects RX0 yX0_closeShape yX0_closeShape, Cond.code yX0_closeShape cX0_closeShape 1 none]
def wsX4_takeBehindOne_r3 : List Cond := [Cond.fieldLink RX0 18 "ShapeJudge$Book" "closed" "[Z", Cond.methodLink RX4 73 yX4_takeSign, Cond.instanceMethod yX4_takeSign, Cond.selects RX4 yX4_takeSign yX4_takeSign, Cond.code yX4_takeSign cX4_takeSign 3 none]
def wsX4_takeBehindOne : List Cond := .code yX4_takeBehindOne cX4_takeBehindOne 1 none :: ((wsX4_takeBehindOne_r1 ++ (wsX4_takeBehindOne_r2 ++ wsX4_takeBehindOne_r3)) ++ wsX40 ++ wsX50 ++ wsX00)
def wsX4_takeLeast : List Cond := .code yX4_takeLeast cX4_takeLeast 1 none :: ([.fieldLink RX4 14 "ShapeJudge$TextReader" "tokens" "LShapeJudge$Tokens;", .fieldLink RX4 107 "ShapeJudge$Tokens" "number" "I", .fieldLink RX4 140 "ShapeJudge$TextReader" "firstNumber" "I", .fieldLink RX4 32 "ShapeJudge$TextReader" "state" "I", .methodLink RX4 146 yX4_isNumberFrom, .instanceMethod yX4_isNumberFrom, .selects RX4 yX4_isNumberFrom yX4_isNumberFrom, .initialized RX4, .code yX4_isNumberFrom cX4_isNumberFrom 3 (some .boolean), .fieldLink RX4 54 "ShapeJudge$Tokens" "kind" "I", .fieldLink RX4 45 "ShapeJudge$TextReader" "faultKind" "I", .methodLink RX4 57 yX4_fail, .instanceMethod yX4_fail, .selects RX4 yX4_fail yX4_fail, .code yX4_fail cX4_fail 2 none, .fieldLink RX4 67 "ShapeJudge$Tokens" "place" "I", .fieldLink RX4 48 "ShapeJudge$TextReader" "faultPlace" "I"] ++ wsX40 ++ wsX50)
def wsX4_takeMost_r1 : List Cond := [Cond.fieldLink RX4 140 "ShapeJudge$TextReader" "firstNumber" "I", Cond.fieldLink RX4 20 "ShapeJudge$TextReader" "book" "LShapeJudge$Book;", Cond.fieldLink RX4 14 "ShapeJudge$TextReader" "tokens" "LShapeJudge$Tokens;", Cond.fieldLink RX4 107 "ShapeJudge$Tokens" "number" "I", Cond.fieldLink RX4 32 "ShapeJudge$TextReader" "state" "I", Cond.methodLink RX4 146 yX4_isNumberFrom, Cond.instanceMethod yX4_isNumberFrom, Cond.selects RX4 yX4_isNumberFrom yX4_isNumberFrom, Cond.initialized RX4, Cond.code yX4_isNumberFrom cX4_isNumberFrom 3 (some .boolean), Cond.fieldLink RX4 54 "ShapeJudge$Tokens" "kind" "I", Cond.fieldLink RX4 45 "ShapeJudge$TextReader" "faultKind" "I", Cond.methodLink RX4 57 yX4_fail, Cond.instanceMethod yX4_fail, Cond.selects RX4 yX4_fail yX4_fail, Cond.code yX4_fail cX4_fail 2 none, Cond.fieldLink RX4 67 "ShapeJudge$Tokens" "place" "I", Cond.fieldLink RX4 48 "ShapeJudge$TextReader" "faultPlace" "I", Cond.methodLink RX4 150 yX0_addStep, Cond.instanceMethod yX0_addStep, Cond.selects RX0 yX0_addStep yX0_addStep, Cond.initialized RX0, Cond.code yX0_addStep cX0_addStep 3 none, Cond.fieldLink RX0 60 "ShapeJudge$Book" "stepCount" "I"]
def wsX4_takeMost_r2 : List Cond := [Cond.fieldLink RX0 34 "ShapeJudge$Book" "steps" "[I", Cond.fieldLink RX0 52 "ShapeJudge$Book" "shapeCount" "I", Cond.fieldLink RX0 31 "ShapeJudge$Book" "firstStep" "[I", Cond.methodLink RX0 56 yX0_hasShape, Cond.instanceMethod yX0_hasShape, Cond.selects RX0 yX0_hasShape yX0_hasShape, Cond.code yX0_hasShape cX0_hasShape 2 (some .boolean)]
def wsX4_takeMost : List Cond := .code yX4_takeMost cX4_takeMost 1 none :: ((wsX4_takeMost_r1 ++ wsX4_takeMost_r2) ++ wsX40 ++ wsX50 ++ wsX00)
def wsX4_takeToken_r1 : List Cond := [Cond.fieldLink RX4 32 "ShapeJudge$TextReader" "state" "I", Cond.methodLink RX4 70 yX4_takeShapeWord, Cond.instanceMethod yX4_takeShapeWord, Cond.selects RX4 yX4_takeShapeWord yX4_takeShapeWord, Cond.initialized RX4, Cond.code yX4_takeShapeWord cX4_takeShapeWord 1 none, Cond.fieldLink RX4 14 "ShapeJudge$TextReader" "tokens" "LShapeJudge$Tokens;", Cond.fieldLink RX4 54 "ShapeJudge$Tokens" "kind" "I", Cond.fieldLink RX4 20 "ShapeJudge$TextReader" "book" "LShapeJudge$Book;", Cond.fieldLink RX4 104 "ShapeJudge$Book" "shapeCount" "I", Cond.fieldLink RX4 107 "ShapeJudge$Tokens" "number" "I", Cond.methodLink RX4 57 yX4_fail, Cond.instanceMethod yX4_fail, Cond.selects RX4 yX4_fail yX4_fail, Cond.code yX4_fail cX4_fail 2 none, Cond.fieldLink RX4 45 "ShapeJudge$TextReader" "faultKind" "I", Cond.fieldLink RX4 67 "ShapeJudge$Tokens" "place" "I", Cond.fieldLink RX4 48 "ShapeJudge$TextReader" "faultPlace" "I", Cond.methodLink RX4 110 yX0_shapeOf, Cond.instanceMethod yX0_shapeOf, Cond.selects RX0 yX0_shapeOf yX0_shapeOf, Cond.initialized RX0, Cond.code yX0_shapeOf cX0_shapeOf 3 (some .int), Cond.fieldLink RX0 52 "ShapeJudge$Book" "shapeCount" "I"]
def wsX4_takeToken_r2 : List Cond := [Cond.fieldLink RX0 9 "ShapeJudge$Book" "word" "[I", Cond.methodLink RX4 114 yX0_openShape, Cond.instanceMethod yX0_openShape, Cond.selects RX0 yX0_openShape yX0_openShape, Cond.code yX0_openShape cX0_openShape 3 none, Cond.fieldLink RX0 15 "ShapeJudge$Book" "partCount" "[I", Cond.fieldLink RX0 18 "ShapeJudge$Book" "closed" "[Z", Cond.fieldLink RX0 22 "ShapeJudge$Book" "names" "[I", Cond.fieldLink RX0 25 "ShapeJudge$Book" "reach" "[I", Cond.fieldLink RX0 28 "ShapeJudge$Book" "level" "[I", Cond.fieldLink RX0 31 "ShapeJudge$Book" "firstStep" "[I", Cond.fieldLink RX0 60 "ShapeJudge$Book" "stepCount" "I", Cond.methodLink RX4 73 yX4_takeSign, Cond.instanceMethod yX4_takeSign, Cond.selects RX4 yX4_takeSign yX4_takeSign, Cond.code yX4_takeSign cX4_takeSign 3 none, Cond.methodLink RX4 77 yX4_takeBody, Cond.instanceMethod yX4_takeBody, Cond.selects RX4 yX4_takeBody yX4_takeBody, Cond.code yX4_takeBody cX4_takeBody 1 none, Cond.methodLink RX4 80 yX4_takeOne, Cond.instanceMethod yX4_takeOne, Cond.selects RX4 yX4_takeOne yX4_takeOne, Cond.code yX4_takeOne cX4_takeOne 1 none]
def wsX4_takeToken_r3 : List Cond := [Cond.methodLink RX4 123 yX4_takeOpening, Cond.instanceMethod yX4_takeOpening, Cond.selects RX4 yX4_takeOpening yX4_takeOpening, Cond.code yX4_takeOpening cX4_takeOpening 1 none, Cond.fieldLink RX4 36 "ShapeJudge$TextReader" "depth" "I", Cond.methodLink RX4 126 yX0_hasRoomForPart, Cond.instanceMethod yX0_hasRoomForPart, Cond.selects RX0 yX0_hasRoomForPart yX0_hasRoomForPart, Cond.code yX0_hasRoomForPart cX0_hasRoomForPart 1 (some .boolean), Cond.methodLink RX0 56 yX0_hasShape, Cond.instanceMethod yX0_hasShape, Cond.selects RX0 yX0_hasShape yX0_hasShape, Cond.code yX0_hasShape cX0_hasShape 2 (some .boolean), Cond.methodLink RX4 130 yX0_addPart, Cond.instanceMethod yX0_addPart, Cond.selects RX0 yX0_addPart yX0_addPart, Cond.code yX0_addPart cX0_addPart 4 none, Cond.fieldLink RX0 63 "ShapeJudge$Book" "lastSlot" "I", Cond.fieldLink RX0 37 "ShapeJudge$Book" "partName" "[I", Cond.methodLink RX0 66 yX0_hasRoomForPart, Cond.methodLink RX0 70 yX0_addStep, Cond.instanceMethod yX0_addStep, Cond.selects RX0 yX0_addStep yX0_addStep, Cond.code yX0_addStep cX0_addStep 3 none]
def wsX4_takeToken_r4 : List Cond := [Cond.fieldLink RX0 34 "ShapeJudge$Book" "steps" "[I", Cond.methodLink RX4 117 yX4_takeShapeEnd, Cond.instanceMethod yX4_takeShapeEnd, Cond.selects RX4 yX4_takeShapeEnd yX4_takeShapeEnd, Cond.code yX4_takeShapeEnd cX4_takeShapeEnd 1 none, Cond.methodLink RX4 120 yX0_closeShape, Cond.instanceMethod yX0_closeShape, Cond.selects RX0 yX0_closeShape yX0_closeShape, Cond.code yX0_closeShape cX0_closeShape 1 none, Cond.methodLink RX4 83 yX4_takeTest, Cond.instanceMethod yX4_takeTest, Cond.selects RX4 yX4_takeTest yX4_takeTest, Cond.code yX4_takeTest cX4_takeTest 1 none, Cond.fieldLink RX4 137 "ShapeJudge$TextReader" "test" "I", Cond.fieldLink RX4 140 "ShapeJudge$TextReader" "firstNumber" "I", Cond.methodLink RX4 133 yX0_tellPart, Cond.instanceMethod yX0_tellPart, Cond.selects RX0 yX0_tellPart yX0_tellPart, Cond.code yX0_tellPart cX0_tellPart 5 none, Cond.fieldLink RX0 40 "ShapeJudge$Book" "partTest" "[I", Cond.fieldLink RX0 43 "ShapeJudge$Book" "partFirst" "[I", Cond.fieldLink RX0 46 "ShapeJudge$Book" "partSecond" "[I", Cond.fieldLink RX0 49 "ShapeJudge$Book" "partPlace" "[I", Cond.methodLink RX4 86 yX4_takeReference]
def wsX4_takeToken_r5 : List Cond := [Cond.instanceMethod yX4_takeReference, Cond.selects RX4 yX4_takeReference yX4_takeReference, Cond.code yX4_takeReference cX4_takeReference 1 none, Cond.methodLink RX4 89 yX4_takeLastNumber, Cond.instanceMethod yX4_takeLastNumber, Cond.selects RX4 yX4_takeLastNumber yX4_takeLastNumber, Cond.code yX4_takeLastNumber cX4_takeLastNumber 1 none, Cond.constant RX4 145 (2147483647), Cond.methodLink RX4 146 yX4_isNumberFrom, Cond.instanceMethod yX4_isNumberFrom, Cond.selects RX4 yX4_isNumberFrom yX4_isNumberFrom, Cond.code yX4_isNumberFrom cX4_isNumberFrom 3 (some .boolean), Cond.methodLink RX4 92 yX4_takeBehindOne, Cond.instanceMethod yX4_takeBehindOne, Cond.selects RX4 yX4_takeBehindOne yX4_takeBehindOne, Cond.code yX4_takeBehindOne cX4_takeBehindOne 1 none, Cond.methodLink RX4 101 yX4_takeBehindItem, Cond.instanceMethod yX4_takeBehindItem, Cond.selects RX4 yX4_takeBehindItem yX4_takeBehindItem, Cond.code yX4_takeBehindItem cX4_takeBehindItem 3 none, Cond.fieldLink RX4 39 "ShapeJudge$TextReader" "commas" "I", Cond.fieldLink RX4 42 "ShapeJudge$TextReader" "bars" "I", Cond.methodLink RX4 153 yX4_settleComma, Cond.instanceMethod yX4_settleComma]
def wsX4_takeToken_r6 : List Cond := [Cond.selects RX4 yX4_settleComma yX4_settleComma, Cond.code yX4_settleComma cX4_settleComma 1 none, Cond.methodLink RX4 150 yX0_addStep, Cond.methodLink RX4 156 yX4_settleBar, Cond.instanceMethod yX4_settleBar, Cond.selects RX4 yX4_settleBar yX4_settleBar, Cond.code yX4_settleBar cX4_settleBar 1 none, Cond.methodLink RX4 95 yX4_takeLeast, Cond.instanceMethod yX4_takeLeast, Cond.selects RX4 yX4_takeLeast yX4_takeLeast, Cond.code yX4_takeLeast cX4_takeLeast 1 none, Cond.methodLink RX4 98 yX4_takeMost, Cond.instanceMethod yX4_takeMost, Cond.selects RX4 yX4_takeMost yX4_takeMost, Cond.code yX4_takeMost cX4_takeMost 1 none]
def wsX4_takeToken : List Cond := .code yX4_takeToken cX4_takeToken 1 none :: ((wsX4_takeToken_r1 ++ (wsX4_takeToken_r2 ++ (wsX4_takeToken_r3 ++ (wsX4_takeToken_r4 ++ (wsX4_takeToken_r5 ++ wsX4_takeToken_r6))))) ++ wsX40 ++ wsX50 ++ wsX00)
def wsX4_linkShapes_r1 : List Cond := [Cond.fieldLink RX4 20 "ShapeJudge$TextReader" "book" "LShapeJudge$Book;", Cond.fieldLink RX4 45 "ShapeJudge$TextReader" "faultKind" "I", Cond.fieldLink RX4 48 "ShapeJudge$TextReader" "faultPlace" "I", Cond.methodLink RX4 159 yX0_linkReferences, Cond.instanceMethod yX0_linkReferences, Cond.selects RX0 yX0_linkReferences yX0_linkReferences, Cond.initialized RX0, Cond.code yX0_linkReferences cX0_linkReferences 5 (some .int), Cond.fieldLink RX0 52 "ShapeJudge$Book" "shapeCount" "I", Cond.fieldLink RX0 15 "ShapeJudge$Book" "partCount" "[I", Cond.fieldLink RX0 43 "ShapeJudge$Book" "partFirst" "[I", Cond.fieldLink RX0 49 "ShapeJudge$Book" "partPlace" "[I", Cond.fieldLink RX0 25 "ShapeJudge$Book" "reach" "[I", Cond.methodLink RX0 74 yX0_refers, Cond.instanceMethod yX0_refers, Cond.selects RX0 yX0_refers yX0_refers, Cond.code yX0_refers cX0_refers 2 (some .boolean), Cond.fieldLink RX0 40 "ShapeJudge$Book" "partTest" "[I", Cond.methodLink RX0 77 yX0_shapeOf, Cond.instanceMethod yX0_shapeOf, Cond.selects RX0 yX0_shapeOf yX0_shapeOf, Cond.code yX0_shapeOf cX0_shapeOf 3 (some .int), Cond.fieldLink RX0 9 "ShapeJudge$Book" "word" "[I", Cond.methodLink RX4 163 yX0_findReach]
def wsX4_linkShapes_r2 : List Cond := [Cond.instanceMethod yX0_findReach, Cond.selects RX0 yX0_findReach yX0_findReach, Cond.code yX0_findReach cX0_findReach 3 none, Cond.methodLink RX4 166 yX0_placeOfCircle, Cond.instanceMethod yX0_placeOfCircle, Cond.selects RX0 yX0_placeOfCircle yX0_placeOfCircle, Cond.code yX0_placeOfCircle cX0_placeOfCircle 4 (some .int), Cond.methodLink RX0 81 yX0_dependsOn, Cond.instanceMethod yX0_dependsOn, Cond.selects RX0 yX0_dependsOn yX0_dependsOn, Cond.code yX0_dependsOn cX0_dependsOn 3 (some .boolean), Cond.methodLink RX0 56 yX0_hasShape, Cond.instanceMethod yX0_hasShape, Cond.selects RX0 yX0_hasShape yX0_hasShape, Cond.code yX0_hasShape cX0_hasShape 2 (some .boolean), Cond.methodLink RX4 169 yX0_findLevels, Cond.instanceMethod yX0_findLevels, Cond.selects RX0 yX0_findLevels yX0_findLevels, Cond.code yX0_findLevels cX0_findLevels 3 none, Cond.methodLink RX0 85 yX0_raiseLevel, Cond.instanceMethod yX0_raiseLevel, Cond.selects RX0 yX0_raiseLevel yX0_raiseLevel, Cond.code yX0_raiseLevel cX0_raiseLevel 5 none, Cond.fieldLink RX0 28 "ShapeJudge$Book" "level" "[I"]
def wsX4_linkShapes_r3 : List Cond := [Cond.methodLink RX0 89 Lib.Math.max.name, Cond.static Lib.Math.max.name, Cond.initialized "java/lang/Math", Cond.code Lib.Math.max.name Lib.Math.max.code 2 (some .int)]
def wsX4_linkShapes : List Cond := .code yX4_linkShapes cX4_linkShapes 3 none :: ((wsX4_linkShapes_r1 ++ (wsX4_linkShapes_r2 ++ wsX4_linkShapes_r3)) ++ wsX40 ++ wsX00)
def wsX4_readText_r1 : List Cond := [Cond.fieldLink RX4 20 "ShapeJudge$TextReader" "book" "LShapeJudge$Book;", Cond.fieldLink RX4 14 "ShapeJudge$TextReader" "tokens" "LShapeJudge$Tokens;", Cond.fieldLink RX4 32 "ShapeJudge$TextReader" "state" "I", Cond.fieldLink RX4 36 "ShapeJudge$TextReader" "depth" "I", Cond.fieldLink RX4 39 "ShapeJudge$TextReader" "commas" "I", Cond.fieldLink RX4 42 "ShapeJudge$TextReader" "bars" "I", Cond.fieldLink RX4 45 "ShapeJudge$TextReader" "faultKind" "I", Cond.fieldLink RX4 48 "ShapeJudge$TextReader" "faultPlace" "I", Cond.fieldLink RX4 54 "ShapeJudge$Tokens" "kind" "I", Cond.methodLink RX4 24 yX0_clear, Cond.instanceMethod yX0_clear, Cond.selects RX0 yX0_clear yX0_clear, Cond.initialized RX0, Cond.code yX0_clear cX0_clear 1 none, Cond.fieldLink RX0 52 "ShapeJudge$Book" "shapeCount" "I", Cond.fieldLink RX0 60 "ShapeJudge$Book" "stepCount" "I", Cond.fieldLink RX0 63 "ShapeJudge$Book" "lastSlot" "I", Cond.fieldLink RX0 31 "ShapeJudge$Book" "firstStep" "[I", Cond.methodLink RX4 29 yX5_rewind, Cond.instanceMethod yX5_rewind, Cond.selects RX5 yX5_rewind yX5_rewind, Cond.initialized RX5, Cond.code yX5_rewind cX5_rewind 1 none, Cond.fieldLink RX5 13 "ShapeJudge$Tokens" "next" "I"]
def wsX4_readText_r2 : List Cond := [Cond.methodLink RX4 51 yX5_advance, Cond.instanceMethod yX5_advance, Cond.selects RX5 yX5_advance yX5_advance, Cond.code yX5_advance cX5_advance 3 none, Cond.fieldLink RX5 7 "ShapeJudge$Tokens" "tape" "LShapeJudge$Tape;", Cond.fieldLink RX5 17 "ShapeJudge$Tape" "length" "I", Cond.fieldLink RX5 26 "ShapeJudge$Tokens" "place" "I", Cond.fieldLink RX5 33 "ShapeJudge$Tokens" "number" "I", Cond.methodLink RX5 22 yX3_byteAt, Cond.instanceMethod yX3_byteAt, Cond.selects RX3 yX3_byteAt yX3_byteAt, Cond.initialized RX3, Cond.code yX3_byteAt cX3_byteAt 2 (some .int), Cond.fieldLink RX3 15 "ShapeJudge$Tape" "length" "I", Cond.fieldLink RX3 9 "ShapeJudge$Tape" "bytes" "[B", Cond.methodLink RX5 29 yX5_become, Cond.instanceMethod yX5_become, Cond.selects RX5 yX5_become yX5_become, Cond.code yX5_become cX5_become 3 none, Cond.fieldLink RX5 57 "ShapeJudge$Tokens" "kind" "I", Cond.methodLink RX5 36 yX5_isFigure, Cond.static yX5_isFigure, Cond.code yX5_isFigure cX5_isFigure 1 (some .boolean), Cond.methodLink RX5 40 yX5_readNumber]
def wsX4_readText_r3 : List Cond := [Cond.instanceMethod yX5_readNumber, Cond.selects RX5 yX5_readNumber yX5_readNumber, Cond.code yX5_readNumber cX5_readNumber 5 none, Cond.methodLink RX5 43 yX5_isClosedText, Cond.instanceMethod yX5_isClosedText, Cond.selects RX5 yX5_isClosedText yX5_isClosedText, Cond.code yX5_isClosedText cX5_isClosedText 2 (some .boolean), Cond.methodLink RX5 49 yJ0_length_8abf5, Cond.instanceMethod yJ0_length_8abf5, Cond.selects RJ0 yJ0_length_8abf5 yJ0_length_8abf5, Cond.initialized RJ0, Cond.code yJ0_length_8abf5 cJ0_length_8abf5 1 (some .int), Cond.fieldLink RJ0 9 "java/lang/String" "value" "[B", Cond.methodLink RJ0 335 yJ0_coder_7d493, Cond.instanceMethod yJ0_coder_7d493, Cond.selects RJ0 yJ0_coder_7d493 yJ0_coder_7d493, Cond.code yJ0_coder_7d493 cJ0_coder_7d493 1 (some .byte), Cond.fieldLink RJ0 38 "java/lang/String" "COMPACT_STRINGS" "Z", Cond.fieldLink RJ0 15 "java/lang/String" "coder" "B", Cond.methodLink RX5 60 yJ0_charAt_5068e, Cond.instanceMethod yJ0_charAt_5068e, Cond.selects RJ0 yJ0_charAt_5068e yJ0_charAt_5068e, Cond.code yJ0_charAt_5068e cJ0_charAt_5068e 2 (some .char), Cond.methodLink RJ0 492 yJ0_isLatin1_aae02]
def wsX4_readText_r4 : List Cond := [Cond.instanceMethod yJ0_isLatin1_aae02, Cond.selects RJ0 yJ0_isLatin1_aae02 yJ0_isLatin1_aae02, Cond.code yJ0_isLatin1_aae02 cJ0_isLatin1_aae02 1 (some .boolean), Cond.methodLink RJ0 495 yJ1_charAt_3b067, Cond.static yJ1_charAt_3b067, Cond.initialized RJ1, Cond.code yJ1_charAt_3b067 cJ1_charAt_3b067 2 (some .char), Cond.methodLink RJ1 9 yJ0_checkIndex_df160, Cond.static yJ0_checkIndex_df160, Cond.code yJ0_checkIndex_df160 cJ0_checkIndex_df160 2 none, Cond.fieldLink RJ0 1053 "jdk/internal/util/Preconditions" "SIOOBE_FORMATTER" "Ljava/util/function/BiFunction;", Cond.methodLink RJ0 1059 yJ3_checkIndex_8e157, Cond.static yJ3_checkIndex_8e157, Cond.initialized RJ3, Cond.code yJ3_checkIndex_8e157 cJ3_checkIndex_8e157 3 (some .int), Cond.methodLink RJ0 498 yJ2_charAt_3b067, Cond.static yJ2_charAt_3b067, Cond.initialized RJ2, Cond.code yJ2_charAt_3b067 cJ2_charAt_3b067 2 (some .char), Cond.methodLink RJ2 67 yJ2_checkIndex_2214a, Cond.static yJ2_checkIndex_2214a, Cond.code yJ2_checkIndex_2214a cJ2_checkIndex_2214a 2 none, Cond.methodLink RJ2 48 yJ2_length_9d52b, Cond.static yJ2_length_9d52b]
def wsX4_readText_r5 : List Cond := [Cond.code yJ2_length_9d52b cJ2_length_9d52b 1 (some .int), Cond.methodLink RJ2 414 yJ0_checkIndex_df160, Cond.methodLink RJ2 71 yJ2_getChar_3b067, Cond.static yJ2_getChar_3b067, Cond.code yJ2_getChar_3b067 cJ2_getChar_3b067 2 (some .char), Cond.fieldLink RJ2 44 "java/lang/StringUTF16" "$assertionsDisabled" "Z", Cond.fieldLink RJ2 59 "java/lang/StringUTF16" "HI_BYTE_SHIFT" "I", Cond.fieldLink RJ2 63 "java/lang/StringUTF16" "LO_BYTE_SHIFT" "I", Cond.methodLink RX5 54 yX5_isSign, Cond.static yX5_isSign, Cond.code yX5_isSign cX5_isSign 1 (some .boolean), Cond.methodLink RX4 57 yX4_fail, Cond.instanceMethod yX4_fail, Cond.selects RX4 yX4_fail yX4_fail, Cond.initialized RX4, Cond.code yX4_fail cX4_fail 2 none, Cond.fieldLink RX4 67 "ShapeJudge$Tokens" "place" "I", Cond.methodLink RX4 61 yX4_takeToken, Cond.instanceMethod yX4_takeToken, Cond.selects RX4 yX4_takeToken yX4_takeToken, Cond.code yX4_takeToken cX4_takeToken 1 none, Cond.methodLink RX4 70 yX4_takeShapeWord, Cond.instanceMethod yX4_takeShapeWord, Cond.selects RX4 yX4_takeShapeWord yX4_takeShapeWord]
def wsX4_readText_r6 : List Cond := [Cond.code yX4_takeShapeWord cX4_takeShapeWord 1 none, Cond.fieldLink RX4 104 "ShapeJudge$Book" "shapeCount" "I", Cond.fieldLink RX4 107 "ShapeJudge$Tokens" "number" "I", Cond.methodLink RX4 110 yX0_shapeOf, Cond.instanceMethod yX0_shapeOf, Cond.selects RX0 yX0_shapeOf yX0_shapeOf, Cond.code yX0_shapeOf cX0_shapeOf 3 (some .int), Cond.fieldLink RX0 9 "ShapeJudge$Book" "word" "[I", Cond.methodLink RX4 114 yX0_openShape, Cond.instanceMethod yX0_openShape, Cond.selects RX0 yX0_openShape yX0_openShape, Cond.code yX0_openShape cX0_openShape 3 none, Cond.fieldLink RX0 15 "ShapeJudge$Book" "partCount" "[I", Cond.fieldLink RX0 18 "ShapeJudge$Book" "closed" "[Z", Cond.fieldLink RX0 22 "ShapeJudge$Book" "names" "[I", Cond.fieldLink RX0 25 "ShapeJudge$Book" "reach" "[I", Cond.fieldLink RX0 28 "ShapeJudge$Book" "level" "[I", Cond.methodLink RX4 73 yX4_takeSign, Cond.instanceMethod yX4_takeSign, Cond.selects RX4 yX4_takeSign yX4_takeSign, Cond.code yX4_takeSign cX4_takeSign 3 none, Cond.methodLink RX4 77 yX4_takeBody, Cond.instanceMethod yX4_takeBody, Cond.selects RX4 yX4_takeBody yX4_takeBody]
def wsX4_readText_r7 : List Cond := [Cond.code yX4_takeBody cX4_takeBody 1 none, Cond.methodLink RX4 80 yX4_takeOne, Cond.instanceMethod yX4_takeOne, Cond.selects RX4 yX4_takeOne yX4_takeOne, Cond.code yX4_takeOne cX4_takeOne 1 none, Cond.methodLink RX4 123 yX4_takeOpening, Cond.instanceMethod yX4_takeOpening, Cond.selects RX4 yX4_takeOpening yX4_takeOpening, Cond.code yX4_takeOpening cX4_takeOpening 1 none, Cond.methodLink RX4 126 yX0_hasRoomForPart, Cond.instanceMethod yX0_hasRoomForPart, Cond.selects RX0 yX0_hasRoomForPart yX0_hasRoomForPart, Cond.code yX0_hasRoomForPart cX0_hasRoomForPart 1 (some .boolean), Cond.methodLink RX0 56 yX0_hasShape, Cond.instanceMethod yX0_hasShape, Cond.selects RX0 yX0_hasShape yX0_hasShape, Cond.code yX0_hasShape cX0_hasShape 2 (some .boolean), Cond.methodLink RX4 130 yX0_addPart, Cond.instanceMethod yX0_addPart, Cond.selects RX0 yX0_addPart yX0_addPart, Cond.code yX0_addPart cX0_addPart 4 none, Cond.fieldLink RX0 37 "ShapeJudge$Book" "partName" "[I", Cond.methodLink RX0 66 yX0_hasRoomForPart, Cond.methodLink RX0 70 yX0_addStep]
def wsX4_readText_r8 : List Cond := [Cond.instanceMethod yX0_addStep, Cond.selects RX0 yX0_addStep yX0_addStep, Cond.code yX0_addStep cX0_addStep 3 none, Cond.fieldLink RX0 34 "ShapeJudge$Book" "steps" "[I", Cond.methodLink RX4 117 yX4_takeShapeEnd, Cond.instanceMethod yX4_takeShapeEnd, Cond.selects RX4 yX4_takeShapeEnd yX4_takeShapeEnd, Cond.code yX4_takeShapeEnd cX4_takeShapeEnd 1 none, Cond.methodLink RX4 120 yX0_closeShape, Cond.instanceMethod yX0_closeShape, Cond.selects RX0 yX0_closeShape yX0_closeShape, Cond.code yX0_closeShape cX0_closeShape 1 none, Cond.methodLink RX4 83 yX4_takeTest, Cond.instanceMethod yX4_takeTest, Cond.selects RX4 yX4_takeTest yX4_takeTest, Cond.code yX4_takeTest cX4_takeTest 1 none, Cond.fieldLink RX4 137 "ShapeJudge$TextReader" "test" "I", Cond.fieldLink RX4 140 "ShapeJudge$TextReader" "firstNumber" "I", Cond.methodLink RX4 133 yX0_tellPart, Cond.instanceMethod yX0_tellPart, Cond.selects RX0 yX0_tellPart yX0_tellPart, Cond.code yX0_tellPart cX0_tellPart 5 none, Cond.fieldLink RX0 40 "ShapeJudge$Book" "partTest" "[I", Cond.fieldLink RX0 43 "ShapeJudge$Book" "partFirst" "[I"]
def wsX4_readText_r9 : List Cond := [Cond.fieldLink RX0 46 "ShapeJudge$Book" "partSecond" "[I", Cond.fieldLink RX0 49 "ShapeJudge$Book" "partPlace" "[I", Cond.methodLink RX4 86 yX4_takeReference, Cond.instanceMethod yX4_takeReference, Cond.selects RX4 yX4_takeReference yX4_takeReference, Cond.code yX4_takeReference cX4_takeReference 1 none, Cond.methodLink RX4 89 yX4_takeLastNumber, Cond.instanceMethod yX4_takeLastNumber, Cond.selects RX4 yX4_takeLastNumber yX4_takeLastNumber, Cond.code yX4_takeLastNumber cX4_takeLastNumber 1 none, Cond.constant RX4 145 (2147483647), Cond.methodLink RX4 146 yX4_isNumberFrom, Cond.instanceMethod yX4_isNumberFrom, Cond.selects RX4 yX4_isNumberFrom yX4_isNumberFrom, Cond.code yX4_isNumberFrom cX4_isNumberFrom 3 (some .boolean), Cond.methodLink RX4 92 yX4_takeBehindOne, Cond.instanceMethod yX4_takeBehindOne, Cond.selects RX4 yX4_takeBehindOne yX4_takeBehindOne, Cond.code yX4_takeBehindOne cX4_takeBehindOne 1 none, Cond.methodLink RX4 101 yX4_takeBehindItem, Cond.instanceMethod yX4_takeBehindItem, Cond.selects RX4 yX4_takeBehindItem yX4_takeBehindItem, Cond.code yX4_takeBehindItem cX4_takeBehindItem 3 none, Cond.methodLink RX4 153 yX4_settleComma]
def wsX4_readText_r10 : List Cond := [Cond.instanceMethod yX4_settleComma, Cond.selects RX4 yX4_settleComma yX4_settleComma, Cond.code yX4_settleComma cX4_settleComma 1 none, Cond.methodLink RX4 150 yX0_addStep, Cond.methodLink RX4 156 yX4_settleBar, Cond.instanceMethod yX4_settleBar, Cond.selects RX4 yX4_settleBar yX4_settleBar, Cond.code yX4_settleBar cX4_settleBar 1 none, Cond.methodLink RX4 95 yX4_takeLeast, Cond.instanceMethod yX4_takeLeast, Cond.selects RX4 yX4_takeLeast yX4_takeLeast, Cond.code yX4_takeLeast cX4_takeLeast 1 none, Cond.methodLink RX4 98 yX4_takeMost, Cond.instanceMethod yX4_takeMost, Cond.selects RX4 yX4_takeMost yX4_takeMost, Cond.code yX4_takeMost cX4_takeMost 1 none, Cond.methodLink RX4 64 yX4_linkShapes, Cond.instanceMethod yX4_linkShapes, Cond.selects RX4 yX4_linkShapes yX4_linkShapes, Cond.code yX4_linkShapes cX4_linkShapes 3 none, Cond.methodLink RX4 159 yX0_linkReferences, Cond.instanceMethod yX0_linkReferences, Cond.selects RX0 yX0_linkReferences yX0_linkReferences, Cond.code yX0_linkReferences cX0_linkReferences 5 (some .int)]
def wsX4_readText_r11 : List Cond := [Cond.methodLink RX0 74 yX0_refers, Cond.instanceMethod yX0_refers, Cond.selects RX0 yX0_refers yX0_refers, Cond.code yX0_refers cX0_refers 2 (some .boolean), Cond.methodLink RX0 77 yX0_shapeOf, Cond.methodLink RX4 163 yX0_findReach, Cond.instanceMethod yX0_findReach, Cond.selects RX0 yX0_findReach yX0_findReach, Cond.code yX0_findReach cX0_findReach 3 none, Cond.methodLink RX4 166 yX0_placeOfCircle, Cond.instanceMethod yX0_placeOfCircle, Cond.selects RX0 yX0_placeOfCircle yX0_placeOfCircle, Cond.code yX0_placeOfCircle cX0_placeOfCircle 4 (some .int), Cond.methodLink RX0 81 yX0_dependsOn, Cond.instanceMethod yX0_dependsOn, Cond.selects RX0 yX0_dependsOn yX0_dependsOn, Cond.code yX0_dependsOn cX0_dependsOn 3 (some .boolean), Cond.methodLink RX4 169 yX0_findLevels, Cond.instanceMethod yX0_findLevels, Cond.selects RX0 yX0_findLevels yX0_findLevels, Cond.code yX0_findLevels cX0_findLevels 3 none, Cond.methodLink RX0 85 yX0_raiseLevel, Cond.instanceMethod yX0_raiseLevel, Cond.selects RX0 yX0_raiseLevel yX0_raiseLevel]
def wsX4_readText_r12 : List Cond := [Cond.code yX0_raiseLevel cX0_raiseLevel 5 none, Cond.methodLink RX0 89 Lib.Math.max.name, Cond.static Lib.Math.max.name, Cond.initialized "java/lang/Math", Cond.code Lib.Math.max.name Lib.Math.max.code 2 (some .int)]
def wsX4_readText : List Cond := .code yX4_readText cX4_readText 3 none :: ((wsX4_readText_r1 ++ (wsX4_readText_r2 ++ (wsX4_readText_r3 ++ (wsX4_readText_r4 ++ (wsX4_readText_r5 ++ (wsX4_readText_r6 ++ (wsX4_readText_r7 ++ (wsX4_readText_r8 ++ (wsX4_readText_r9 ++ (wsX4_readText_r10 ++ (wsX4_readText_r11 ++ wsX4_readText_r12))))))))))) ++ wsX40 ++ wsX50 ++ wsX00 ++ wsX30)
def wsX6_init_r1 : List Cond := [Cond.methodLink RX6 1 objectInit, Cond.instanceMethod objectInit, Cond.code objectInit ⟨#[0xb1]⟩ 1 none, Cond.classLink RX6 7 RX1, Cond.instantiable RX1 7, Cond.initialized RX1, Cond.fieldLink RX6 10 "ShapeJudge" "graph" "LShapeJudge$Graph;", Cond.classLink RX6 16 RX3, Cond.instantiable RX3 2, Cond.initialized RX3, Cond.fieldLink RX6 19 "ShapeJudge" "tape" "LShapeJudge$Tape;", Cond.classLink RX6 23 RX4, Cond.instantiable RX4 10, Cond.initialized RX4, Cond.fieldLink RX6 28 "ShapeJudge" "reader" "LShapeJudge$TextReader;", Cond.classLink RX6 32 RX0, Cond.instantiable RX0 16, Cond.initialized RX0, Cond.fieldLink RX6 35 "ShapeJudge" "book" "LShapeJudge$Book;", Cond.fieldLink RX6 39 "ShapeJudge" "spare" "LShapeJudge$Book;", Cond.classLink RX6 42 RX2, Cond.instantiable RX2 10, Cond.initialized RX2, Cond.fieldLink RX6 47 "ShapeJudge" "judge" "LShapeJudge$Judge;"]
def wsX6_init_r2 : List Cond := [Cond.fieldLink RX6 51 "ShapeJudge" "latestFault" "I", Cond.instanceMethod yX1_init, Cond.code yX1_init cX1_init 1 none, Cond.methodLink RX1 3 objectInit, Cond.arrayClass .boolean, Cond.fieldLink RX1 9 "ShapeJudge$Graph" "valued" "[Z", Cond.arrayClass .int, Cond.fieldLink RX1 15 "ShapeJudge$Graph" "values" "[I", Cond.fieldLink RX1 19 "ShapeJudge$Graph" "degrees" "[I", Cond.fieldLink RX1 22 "ShapeJudge$Graph" "edgeName" "[I", Cond.fieldLink RX1 25 "ShapeJudge$Graph" "edgeTo" "[I", Cond.instanceMethod yX3_init, Cond.code yX3_init cX3_init 1 none, Cond.methodLink RX3 3 objectInit, Cond.arrayClass .byte, Cond.fieldLink RX3 9 "ShapeJudge$Tape" "bytes" "[B", Cond.methodLink RX6 25 yX4_init, Cond.instanceMethod yX4_init, Cond.code yX4_init cX4_init 2 none, Cond.methodLink RX4 3 objectInit, Cond.classLink RX4 9 RX5, Cond.instantiable RX5 5, Cond.initialized RX5, Cond.fieldLink RX4 14 "ShapeJudge$TextReader" "tokens" "LShapeJudge$Tokens;"]
def wsX6_init_r3 : List Cond := [Cond.methodLink RX4 11 yX5_init, Cond.instanceMethod yX5_init, Cond.code yX5_init cX5_init 2 none, Cond.methodLink RX5 1 objectInit, Cond.fieldLink RX5 7 "ShapeJudge$Tokens" "tape" "LShapeJudge$Tape;", Cond.instanceMethod yX0_init, Cond.code yX0_init cX0_init 1 none, Cond.methodLink RX0 3 objectInit, Cond.fieldLink RX0 9 "ShapeJudge$Book" "word" "[I", Cond.fieldLink RX0 15 "ShapeJudge$Book" "partCount" "[I", Cond.fieldLink RX0 18 "ShapeJudge$Book" "closed" "[Z", Cond.fieldLink RX0 22 "ShapeJudge$Book" "names" "[I", Cond.fieldLink RX0 25 "ShapeJudge$Book" "reach" "[I", Cond.fieldLink RX0 28 "ShapeJudge$Book" "level" "[I", Cond.fieldLink RX0 31 "ShapeJudge$Book" "firstStep" "[I", Cond.fieldLink RX0 34 "ShapeJudge$Book" "steps" "[I", Cond.fieldLink RX0 37 "ShapeJudge$Book" "partName" "[I", Cond.fieldLink RX0 40 "ShapeJudge$Book" "partTest" "[I", Cond.fieldLink RX0 43 "ShapeJudge$Book" "partFirst" "[I", Cond.fieldLink RX0 46 "ShapeJudge$Book" "partSecond" "[I", Cond.fieldLink RX0 49 "ShapeJudge$Book" "partPlace" "[I", Cond.methodLink RX6 44 yX2_init, Cond.instanceMethod yX2_init, Cond.code yX2_init cX2_init 4 none]
def wsX6_init_r4 : List Cond := [Cond.methodLink RX2 3 objectInit, Cond.fieldLink RX2 9 "ShapeJudge$Judge" "fitting" "[I", Cond.fieldLink RX2 15 "ShapeJudge$Judge" "sure" "[I", Cond.fieldLink RX2 18 "ShapeJudge$Judge" "allowed" "[I", Cond.fieldLink RX2 21 "ShapeJudge$Judge" "stack" "[I", Cond.fieldLink RX2 24 "ShapeJudge$Judge" "graph" "LShapeJudge$Graph;", Cond.fieldLink RX2 28 "ShapeJudge$Judge" "book" "LShapeJudge$Book;"]
def wsX6_init : List Cond := .code yX6_init cX6_init 1 none :: ((wsX6_init_r1 ++ (wsX6_init_r2 ++ (wsX6_init_r3 ++ wsX6_init_r4))) ++ wsX10 ++ wsX60 ++ wsX30 ++ wsX40 ++ wsX00 ++ wsX20 ++ wsX50)
def wsX6_node : List Cond := .code yX6_node cX6_node 3 (some .int) :: ([.fieldLink RX6 10 "ShapeJudge" "graph" "LShapeJudge$Graph;", .fieldLink RX6 55 "ShapeJudge$Graph" "nodes" "I", .fieldLink RX6 47 "ShapeJudge" "judge" "LShapeJudge$Judge;", .methodLink RX6 58 yX2_forget, .instanceMethod yX2_forget, .selects RX2 yX2_forget yX2_forget, .initialized RX2, .code yX2_forget cX2_forget 1 none, .fieldLink RX2 35 "ShapeJudge$Judge" "fittingIsRead" "Z", .fieldLink RX2 39 "ShapeJudge$Judge" "sureIsRead" "Z", .methodLink RX6 61 yX1_addNode, .instanceMethod yX1_addNode, .selects RX1 yX1_addNode yX1_addNode, .initialized RX1, .code yX1_addNode cX1_addNode 4 (some .int), .fieldLink RX1 28 "ShapeJudge$Graph" "nodes" "I", .fieldLink RX1 19 "ShapeJudge$Graph" "degrees" "[I", .methodLink RX1 39 yX1_setValue, .instanceMethod yX1_setValue, .selects RX1 yX1_setValue yX1_setValue, .code yX1_setValue cX1_setValue 4 none, .fieldLink RX1 9 "ShapeJudge$Graph" "valued" "[Z", .fieldLink RX1 15 "ShapeJudge$Graph" "values" "[I"] ++ wsX60 ++ wsX10 ++ wsX20)
def wsX6_value : List Cond := .code yX6_value cX6_value 4 (some .int) :: ([.fieldLink RX6 10 "ShapeJudge" "graph" "LShapeJudge$Graph;", .fieldLink RX6 47 "ShapeJudge" "judge" "LShapeJudge$Judge;", .methodLink RX6 65 yX1_hasNode, .instanceMethod yX1_hasNode, .selects RX1 yX1_hasNode yX1_hasNode, .initialized RX1, .code yX1_hasNode cX1_hasNode 2 (some .boolean), .fieldLink RX1 28 "ShapeJudge$Graph" "nodes" "I", .methodLink RX6 58 yX2_forget, .instanceMethod yX2_forget, .selects RX2 yX2_forget yX2_forget, .initialized RX2, .code yX2_forget cX2_forget 1 none, .fieldLink RX2 35 "ShapeJudge$Judge" "fittingIsRead" "Z", .fieldLink RX2 39 "ShapeJudge$Judge" "sureIsRead" "Z", .methodLink RX6 69 yX1_setValue, .instanceMethod yX1_setValue, .selects RX1 yX1_setValue yX1_setValue, .code yX1_setValue cX1_setValue 4 none, .fieldLink RX1 9 "ShapeJudge$Graph" "valued" "[Z", .fieldLink RX1 15 "ShapeJudge$Graph" "values" "[I"] ++ wsX60 ++ wsX10 ++ wsX20)
def wsX6_edge_r1 : List Cond := [Cond.fieldLink RX6 10 "ShapeJudge" "graph" "LShapeJudge$Graph;", Cond.fieldLink RX6 81 "ShapeJudge$Graph" "edges" "I", Cond.fieldLink RX6 84 "ShapeJudge$Graph" "degrees" "[I", Cond.fieldLink RX6 47 "ShapeJudge" "judge" "LShapeJudge$Judge;", Cond.methodLink RX6 73 yX1_canBeEdge, Cond.instanceMethod yX1_canBeEdge, Cond.selects RX1 yX1_canBeEdge yX1_canBeEdge, Cond.initialized RX1, Cond.code yX1_canBeEdge cX1_canBeEdge 4 (some .boolean), Cond.methodLink RX1 32 yX1_hasNode, Cond.instanceMethod yX1_hasNode, Cond.selects RX1 yX1_hasNode yX1_hasNode, Cond.code yX1_hasNode cX1_hasNode 2 (some .boolean), Cond.fieldLink RX1 28 "ShapeJudge$Graph" "nodes" "I", Cond.methodLink RX6 77 yX1_placeOf, Cond.instanceMethod yX1_placeOf, Cond.selects RX1 yX1_placeOf yX1_placeOf, Cond.code yX1_placeOf cX1_placeOf 6 (some .int), Cond.fieldLink RX1 19 "ShapeJudge$Graph" "degrees" "[I", Cond.fieldLink RX1 22 "ShapeJudge$Graph" "edgeName" "[I", Cond.fieldLink RX1 25 "ShapeJudge$Graph" "edgeTo" "[I", Cond.methodLink RX6 58 yX2_forget, Cond.instanceMethod yX2_forget, Cond.selects RX2 yX2_forget yX2_forget]
def wsX6_edge_r2 : List Cond := [Cond.initialized RX2, Cond.code yX2_forget cX2_forget 1 none, Cond.fieldLink RX2 35 "ShapeJudge$Judge" "fittingIsRead" "Z", Cond.fieldLink RX2 39 "ShapeJudge$Judge" "sureIsRead" "Z", Cond.methodLink RX6 88 yX1_addEdge, Cond.instanceMethod yX1_addEdge, Cond.selects RX1 yX1_addEdge yX1_addEdge, Cond.code yX1_addEdge cX1_addEdge 6 none, Cond.fieldLink RX1 36 "ShapeJudge$Graph" "edges" "I", Cond.methodLink RX1 43 yX1_isAhead, Cond.instanceMethod yX1_isAhead, Cond.selects RX1 yX1_isAhead yX1_isAhead, Cond.code yX1_isAhead cX1_isAhead 4 (some .boolean)]
def wsX6_edge : List Cond := .code yX6_edge cX6_edge 4 (some .int) :: ((wsX6_edge_r1 ++ wsX6_edge_r2) ++ wsX60 ++ wsX10 ++ wsX20)
def wsX6_cut_r1 : List Cond := [Cond.fieldLink RX6 10 "ShapeJudge" "graph" "LShapeJudge$Graph;", Cond.fieldLink RX6 47 "ShapeJudge" "judge" "LShapeJudge$Judge;", Cond.fieldLink RX6 81 "ShapeJudge$Graph" "edges" "I", Cond.methodLink RX6 73 yX1_canBeEdge, Cond.instanceMethod yX1_canBeEdge, Cond.selects RX1 yX1_canBeEdge yX1_canBeEdge, Cond.initialized RX1, Cond.code yX1_canBeEdge cX1_canBeEdge 4 (some .boolean), Cond.methodLink RX1 32 yX1_hasNode, Cond.instanceMethod yX1_hasNode, Cond.selects RX1 yX1_hasNode yX1_hasNode, Cond.code yX1_hasNode cX1_hasNode 2 (some .boolean), Cond.fieldLink RX1 28 "ShapeJudge$Graph" "nodes" "I", Cond.methodLink RX6 77 yX1_placeOf, Cond.instanceMethod yX1_placeOf, Cond.selects RX1 yX1_placeOf yX1_placeOf, Cond.code yX1_placeOf cX1_placeOf 6 (some .int), Cond.fieldLink RX1 19 "ShapeJudge$Graph" "degrees" "[I", Cond.fieldLink RX1 22 "ShapeJudge$Graph" "edgeName" "[I", Cond.fieldLink RX1 25 "ShapeJudge$Graph" "edgeTo" "[I", Cond.methodLink RX6 58 yX2_forget, Cond.instanceMethod yX2_forget, Cond.selects RX2 yX2_forget yX2_forget, Cond.initialized RX2]
def wsX6_cut_r2 : List Cond := [Cond.code yX2_forget cX2_forget 1 none, Cond.fieldLink RX2 35 "ShapeJudge$Judge" "fittingIsRead" "Z", Cond.fieldLink RX2 39 "ShapeJudge$Judge" "sureIsRead" "Z", Cond.methodLink RX6 92 yX1_removeEdge, Cond.instanceMethod yX1_removeEdge, Cond.selects RX1 yX1_removeEdge yX1_removeEdge, Cond.code yX1_removeEdge cX1_removeEdge 5 none, Cond.fieldLink RX1 36 "ShapeJudge$Graph" "edges" "I"]
def wsX6_cut : List Cond := .code yX6_cut cX6_cut 5 (some .int) :: ((wsX6_cut_r1 ++ wsX6_cut_r2) ++ wsX60 ++ wsX10 ++ wsX20)
def wsX6_feed : List Cond := .code yX6_feed cX6_feed 6 (some .int) :: ([.fieldLink RX6 19 "ShapeJudge" "tape" "LShapeJudge$Tape;", .fieldLink RX6 96 "ShapeJudge$Tape" "length" "I", .methodLink RX6 99 yX3_append, .instanceMethod yX3_append, .selects RX3 yX3_append yX3_append, .initialized RX3, .code yX3_append cX3_append 3 none, .fieldLink RX3 15 "ShapeJudge$Tape" "length" "I", .fieldLink RX3 9 "ShapeJudge$Tape" "bytes" "[B"] ++ wsX60 ++ wsX30)
def wsX6_end : List Cond := .code yX6_end cX6_end 3 (some .int) :: ([.fieldLink RX6 19 "ShapeJudge" "tape" "LShapeJudge$Tape;", .fieldLink RX6 96 "ShapeJudge$Tape" "length" "I"] ++ wsX60 ++ wsX30)
def wsX6_shapes_r1 : List Cond := [Cond.fieldLink RX6 28 "ShapeJudge" "reader" "LShapeJudge$TextReader;", Cond.fieldLink RX6 39 "ShapeJudge" "spare" "LShapeJudge$Book;", Cond.fieldLink RX6 19 "ShapeJudge" "tape" "LShapeJudge$Tape;", Cond.fieldLink RX6 96 "ShapeJudge$Tape" "length" "I", Cond.fieldLink RX6 107 "ShapeJudge$TextReader" "faultKind" "I", Cond.fieldLink RX6 51 "ShapeJudge" "latestFault" "I", Cond.fieldLink RX6 110 "ShapeJudge$TextReader" "faultPlace" "I", Cond.fieldLink RX6 35 "ShapeJudge" "book" "LShapeJudge$Book;", Cond.fieldLink RX6 47 "ShapeJudge" "judge" "LShapeJudge$Judge;", Cond.fieldLink RX6 116 "ShapeJudge$Book" "shapeCount" "I", Cond.methodLink RX6 103 yX4_readText, Cond.instanceMethod yX4_readText, Cond.selects RX4 yX4_readText yX4_readText, Cond.initialized RX4, Cond.code yX4_readText cX4_readText 3 none, Cond.fieldLink RX4 20 "ShapeJudge$TextReader" "book" "LShapeJudge$Book;", Cond.fieldLink RX4 14 "ShapeJudge$TextReader" "tokens" "LShapeJudge$Tokens;", Cond.fieldLink RX4 32 "ShapeJudge$TextReader" "state" "I", Cond.fieldLink RX4 36 "ShapeJudge$TextReader" "depth" "I", Cond.fieldLink RX4 39 "ShapeJudge$TextReader" "commas" "I", Cond.fieldLink RX4 42 "ShapeJudge$TextReader" "bars" "I", Cond.fieldLink RX4 45 "ShapeJudge$TextReader" "faultKind" "I", Cond.fieldLink RX4 48 "ShapeJudge$TextReader" "faultPlace" "I", Cond.fieldLink RX4 54 "ShapeJudge$Tokens" "kind" "I"]
def wsX6_shapes_r2 : List Cond := [Cond.methodLink RX4 24 yX0_clear, Cond.instanceMethod yX0_clear, Cond.selects RX0 yX0_clear yX0_clear, Cond.initialized RX0, Cond.code yX0_clear cX0_clear 1 none, Cond.fieldLink RX0 52 "ShapeJudge$Book" "shapeCount" "I", Cond.fieldLink RX0 60 "ShapeJudge$Book" "stepCount" "I", Cond.fieldLink RX0 63 "ShapeJudge$Book" "lastSlot" "I", Cond.fieldLink RX0 31 "ShapeJudge$Book" "firstStep" "[I", Cond.methodLink RX4 29 yX5_rewind, Cond.instanceMethod yX5_rewind, Cond.selects RX5 yX5_rewind yX5_rewind, Cond.initialized RX5, Cond.code yX5_rewind cX5_rewind 1 none, Cond.fieldLink RX5 13 "ShapeJudge$Tokens" "next" "I", Cond.methodLink RX4 51 yX5_advance, Cond.instanceMethod yX5_advance, Cond.selects RX5 yX5_advance yX5_advance, Cond.code yX5_advance cX5_advance 3 none, Cond.fieldLink RX5 7 "ShapeJudge$Tokens" "tape" "LShapeJudge$Tape;", Cond.fieldLink RX5 17 "ShapeJudge$Tape" "length" "I", Cond.fieldLink RX5 26 "ShapeJudge$Tokens" "place" "I", Cond.fieldLink RX5 33 "ShapeJudge$Tokens" "number" "I", Cond.methodLink RX5 22 yX3_byteAt]
def wsX6_shapes_r3 : List Cond := [Cond.instanceMethod yX3_byteAt, Cond.selects RX3 yX3_byteAt yX3_byteAt, Cond.initialized RX3, Cond.code yX3_byteAt cX3_byteAt 2 (some .int), Cond.fieldLink RX3 15 "ShapeJudge$Tape" "length" "I", Cond.fieldLink RX3 9 "ShapeJudge$Tape" "bytes" "[B", Cond.methodLink RX5 29 yX5_become, Cond.instanceMethod yX5_become, Cond.selects RX5 yX5_become yX5_become, Cond.code yX5_become cX5_become 3 none, Cond.fieldLink RX5 57 "ShapeJudge$Tokens" "kind" "I", Cond.methodLink RX5 36 yX5_isFigure, Cond.static yX5_isFigure, Cond.code yX5_isFigure cX5_isFigure 1 (some .boolean), Cond.methodLink RX5 40 yX5_readNumber, Cond.instanceMethod yX5_readNumber, Cond.selects RX5 yX5_readNumber yX5_readNumber, Cond.code yX5_readNumber cX5_readNumber 5 none, Cond.methodLink RX5 43 yX5_isClosedText, Cond.instanceMethod yX5_isClosedText, Cond.selects RX5 yX5_isClosedText yX5_isClosedText, Cond.code yX5_isClosedText cX5_isClosedText 2 (some .boolean), Cond.methodLink RX5 49 yJ0_length_8abf5, Cond.instanceMethod yJ0_length_8abf5]
def wsX6_shapes_r4 : List Cond := [Cond.selects RJ0 yJ0_length_8abf5 yJ0_length_8abf5, Cond.initialized RJ0, Cond.code yJ0_length_8abf5 cJ0_length_8abf5 1 (some .int), Cond.fieldLink RJ0 9 "java/lang/String" "value" "[B", Cond.methodLink RJ0 335 yJ0_coder_7d493, Cond.instanceMethod yJ0_coder_7d493, Cond.selects RJ0 yJ0_coder_7d493 yJ0_coder_7d493, Cond.code yJ0_coder_7d493 cJ0_coder_7d493 1 (some .byte), Cond.fieldLink RJ0 38 "java/lang/String" "COMPACT_STRINGS" "Z", Cond.fieldLink RJ0 15 "java/lang/String" "coder" "B", Cond.methodLink RX5 60 yJ0_charAt_5068e, Cond.instanceMethod yJ0_charAt_5068e, Cond.selects RJ0 yJ0_charAt_5068e yJ0_charAt_5068e, Cond.code yJ0_charAt_5068e cJ0_charAt_5068e 2 (some .char), Cond.methodLink RJ0 492 yJ0_isLatin1_aae02, Cond.instanceMethod yJ0_isLatin1_aae02, Cond.selects RJ0 yJ0_isLatin1_aae02 yJ0_isLatin1_aae02, Cond.code yJ0_isLatin1_aae02 cJ0_isLatin1_aae02 1 (some .boolean), Cond.methodLink RJ0 495 yJ1_charAt_3b067, Cond.static yJ1_charAt_3b067, Cond.initialized RJ1, Cond.code yJ1_charAt_3b067 cJ1_charAt_3b067 2 (some .char), Cond.methodLink RJ1 9 yJ0_checkIndex_df160, Cond.static yJ0_checkIndex_df160]
def wsX6_shapes_r5 : List Cond := [Cond.code yJ0_checkIndex_df160 cJ0_checkIndex_df160 2 none, Cond.fieldLink RJ0 1053 "jdk/internal/util/Preconditions" "SIOOBE_FORMATTER" "Ljava/util/function/BiFunction;", Cond.methodLink RJ0 1059 yJ3_checkIndex_8e157, Cond.static yJ3_checkIndex_8e157, Cond.initialized RJ3, Cond.code yJ3_checkIndex_8e157 cJ3_checkIndex_8e157 3 (some .int), Cond.methodLink RJ0 498 yJ2_charAt_3b067, Cond.static yJ2_charAt_3b067, Cond.initialized RJ2, Cond.code yJ2_charAt_3b067 cJ2_charAt_3b067 2 (some .char), Cond.methodLink RJ2 67 yJ2_checkIndex_2214a, Cond.static yJ2_checkIndex_2214a, Cond.code yJ2_checkIndex_2214a cJ2_checkIndex_2214a 2 none, Cond.methodLink RJ2 48 yJ2_length_9d52b, Cond.static yJ2_length_9d52b, Cond.code yJ2_length_9d52b cJ2_length_9d52b 1 (some .int), Cond.methodLink RJ2 414 yJ0_checkIndex_df160, Cond.methodLink RJ2 71 yJ2_getChar_3b067, Cond.static yJ2_getChar_3b067, Cond.code yJ2_getChar_3b067 cJ2_getChar_3b067 2 (some .char), Cond.fieldLink RJ2 44 "java/lang/StringUTF16" "$assertionsDisabled" "Z", Cond.fieldLink RJ2 59 "java/lang/StringUTF16" "HI_BYTE_SHIFT" "I", Cond.fieldLink RJ2 63 "java/lang/StringUTF16" "LO_BYTE_SHIFT" "I", Cond.methodLink RX5 54 yX5_isSign]
def wsX6_shapes_r6 : List Cond := [Cond.static yX5_isSign, Cond.code yX5_isSign cX5_isSign 1 (some .boolean), Cond.methodLink RX4 57 yX4_fail, Cond.instanceMethod yX4_fail, Cond.selects RX4 yX4_fail yX4_fail, Cond.code yX4_fail cX4_fail 2 none, Cond.fieldLink RX4 67 "ShapeJudge$Tokens" "place" "I", Cond.methodLink RX4 61 yX4_takeToken, Cond.instanceMethod yX4_takeToken, Cond.selects RX4 yX4_takeToken yX4_takeToken, Cond.code yX4_takeToken cX4_takeToken 1 none, Cond.methodLink RX4 70 yX4_takeShapeWord, Cond.instanceMethod yX4_takeShapeWord, Cond.selects RX4 yX4_takeShapeWord yX4_takeShapeWord, Cond.code yX4_takeShapeWord cX4_takeShapeWord 1 none, Cond.fieldLink RX4 104 "ShapeJudge$Book" "shapeCount" "I", Cond.fieldLink RX4 107 "ShapeJudge$Tokens" "number" "I", Cond.methodLink RX4 110 yX0_shapeOf, Cond.instanceMethod yX0_shapeOf, Cond.selects RX0 yX0_shapeOf yX0_shapeOf, Cond.code yX0_shapeOf cX0_shapeOf 3 (some .int), Cond.fieldLink RX0 9 "ShapeJudge$Book" "word" "[I", Cond.methodLink RX4 114 yX0_openShape, Cond.instanceMethod yX0_openShape]
def wsX6_shapes_r7 : List Cond := [Cond.selects RX0 yX0_openShape yX0_openShape, Cond.code yX0_openShape cX0_openShape 3 none, Cond.fieldLink RX0 15 "ShapeJudge$Book" "partCount" "[I", Cond.fieldLink RX0 18 "ShapeJudge$Book" "closed" "[Z", Cond.fieldLink RX0 22 "ShapeJudge$Book" "names" "[I", Cond.fieldLink RX0 25 "ShapeJudge$Book" "reach" "[I", Cond.fieldLink RX0 28 "ShapeJudge$Book" "level" "[I", Cond.methodLink RX4 73 yX4_takeSign, Cond.instanceMethod yX4_takeSign, Cond.selects RX4 yX4_takeSign yX4_takeSign, Cond.code yX4_takeSign cX4_takeSign 3 none, Cond.methodLink RX4 77 yX4_takeBody, Cond.instanceMethod yX4_takeBody, Cond.selects RX4 yX4_takeBody yX4_takeBody, Cond.code yX4_takeBody cX4_takeBody 1 none, Cond.methodLink RX4 80 yX4_takeOne, Cond.instanceMethod yX4_takeOne, Cond.selects RX4 yX4_takeOne yX4_takeOne, Cond.code yX4_takeOne cX4_takeOne 1 none, Cond.methodLink RX4 123 yX4_takeOpening, Cond.instanceMethod yX4_takeOpening, Cond.selects RX4 yX4_takeOpening yX4_takeOpening, Cond.code yX4_takeOpening cX4_takeOpening 1 none, Cond.methodLink RX4 126 yX0_hasRoomForPart]
def wsX6_shapes_r8 : List Cond := [Cond.instanceMethod yX0_hasRoomForPart, Cond.selects RX0 yX0_hasRoomForPart yX0_hasRoomForPart, Cond.code yX0_hasRoomForPart cX0_hasRoomForPart 1 (some .boolean), Cond.methodLink RX0 56 yX0_hasShape, Cond.instanceMethod yX0_hasShape, Cond.selects RX0 yX0_hasShape yX0_hasShape, Cond.code yX0_hasShape cX0_hasShape 2 (some .boolean), Cond.methodLink RX4 130 yX0_addPart, Cond.instanceMethod yX0_addPart, Cond.selects RX0 yX0_addPart yX0_addPart, Cond.code yX0_addPart cX0_addPart 4 none, Cond.fieldLink RX0 37 "ShapeJudge$Book" "partName" "[I", Cond.methodLink RX0 66 yX0_hasRoomForPart, Cond.methodLink RX0 70 yX0_addStep, Cond.instanceMethod yX0_addStep, Cond.selects RX0 yX0_addStep yX0_addStep, Cond.code yX0_addStep cX0_addStep 3 none, Cond.fieldLink RX0 34 "ShapeJudge$Book" "steps" "[I", Cond.methodLink RX4 117 yX4_takeShapeEnd, Cond.instanceMethod yX4_takeShapeEnd, Cond.selects RX4 yX4_takeShapeEnd yX4_takeShapeEnd, Cond.code yX4_takeShapeEnd cX4_takeShapeEnd 1 none, Cond.methodLink RX4 120 yX0_closeShape, Cond.instanceMethod yX0_closeShape]
def wsX6_shapes_r9 : List Cond := [Cond.selects RX0 yX0_closeShape yX0_closeShape, Cond.code yX0_closeShape cX0_closeShape 1 none, Cond.methodLink RX4 83 yX4_takeTest, Cond.instanceMethod yX4_takeTest, Cond.selects RX4 yX4_takeTest yX4_takeTest, Cond.code yX4_takeTest cX4_takeTest 1 none, Cond.fieldLink RX4 137 "ShapeJudge$TextReader" "test" "I", Cond.fieldLink RX4 140 "ShapeJudge$TextReader" "firstNumber" "I", Cond.methodLink RX4 133 yX0_tellPart, Cond.instanceMethod yX0_tellPart, Cond.selects RX0 yX0_tellPart yX0_tellPart, Cond.code yX0_tellPart cX0_tellPart 5 none, Cond.fieldLink RX0 40 "ShapeJudge$Book" "partTest" "[I", Cond.fieldLink RX0 43 "ShapeJudge$Book" "partFirst" "[I", Cond.fieldLink RX0 46 "ShapeJudge$Book" "partSecond" "[I", Cond.fieldLink RX0 49 "ShapeJudge$Book" "partPlace" "[I", Cond.methodLink RX4 86 yX4_takeReference, Cond.instanceMethod yX4_takeReference, Cond.selects RX4 yX4_takeReference yX4_takeReference, Cond.code yX4_takeReference cX4_takeReference 1 none, Cond.methodLink RX4 89 yX4_takeLastNumber, Cond.instanceMethod yX4_takeLastNumber, Cond.selects RX4 yX4_takeLastNumber yX4_takeLastNumber, Cond.code yX4_takeLastNumber cX4_takeLastNumber 1 none]
def wsX6_shapes_r10 : List Cond := [Cond.constant RX4 145 (2147483647), Cond.methodLink RX4 146 yX4_isNumberFrom, Cond.instanceMethod yX4_isNumberFrom, Cond.selects RX4 yX4_isNumberFrom yX4_isNumberFrom, Cond.code yX4_isNumberFrom cX4_isNumberFrom 3 (some .boolean), Cond.methodLink RX4 92 yX4_takeBehindOne, Cond.instanceMethod yX4_takeBehindOne, Cond.selects RX4 yX4_takeBehindOne yX4_takeBehindOne, Cond.code yX4_takeBehindOne cX4_takeBehindOne 1 none, Cond.methodLink RX4 101 yX4_takeBehindItem, Cond.instanceMethod yX4_takeBehindItem, Cond.selects RX4 yX4_takeBehindItem yX4_takeBehindItem, Cond.code yX4_takeBehindItem cX4_takeBehindItem 3 none, Cond.methodLink RX4 153 yX4_settleComma, Cond.instanceMethod yX4_settleComma, Cond.selects RX4 yX4_settleComma yX4_settleComma, Cond.code yX4_settleComma cX4_settleComma 1 none, Cond.methodLink RX4 150 yX0_addStep, Cond.methodLink RX4 156 yX4_settleBar, Cond.instanceMethod yX4_settleBar, Cond.selects RX4 yX4_settleBar yX4_settleBar, Cond.code yX4_settleBar cX4_settleBar 1 none, Cond.methodLink RX4 95 yX4_takeLeast, Cond.instanceMethod yX4_takeLeast]
def wsX6_shapes_r11 : List Cond := [Cond.selects RX4 yX4_takeLeast yX4_takeLeast, Cond.code yX4_takeLeast cX4_takeLeast 1 none, Cond.methodLink RX4 98 yX4_takeMost, Cond.instanceMethod yX4_takeMost, Cond.selects RX4 yX4_takeMost yX4_takeMost, Cond.code yX4_takeMost cX4_takeMost 1 none, Cond.methodLink RX4 64 yX4_linkShapes, Cond.instanceMethod yX4_linkShapes, Cond.selects RX4 yX4_linkShapes yX4_linkShapes, Cond.code yX4_linkShapes cX4_linkShapes 3 none, Cond.methodLink RX4 159 yX0_linkReferences, Cond.instanceMethod yX0_linkReferences, Cond.selects RX0 yX0_linkReferences yX0_linkReferences, Cond.code yX0_linkReferences cX0_linkReferences 5 (some .int), Cond.methodLink RX0 74 yX0_refers, Cond.instanceMethod yX0_refers, Cond.selects RX0 yX0_refers yX0_refers, Cond.code yX0_refers cX0_refers 2 (some .boolean), Cond.methodLink RX0 77 yX0_shapeOf, Cond.methodLink RX4 163 yX0_findReach, Cond.instanceMethod yX0_findReach, Cond.selects RX0 yX0_findReach yX0_findReach, Cond.code yX0_findReach cX0_findReach 3 none, Cond.methodLink RX4 166 yX0_placeOfCircle]
def wsX6_shapes_r12 : List Cond := [Cond.instanceMethod yX0_placeOfCircle, Cond.selects RX0 yX0_placeOfCircle yX0_placeOfCircle, Cond.code yX0_placeOfCircle cX0_placeOfCircle 4 (some .int), Cond.methodLink RX0 81 yX0_dependsOn, Cond.instanceMethod yX0_dependsOn, Cond.selects RX0 yX0_dependsOn yX0_dependsOn, Cond.code yX0_dependsOn cX0_dependsOn 3 (some .boolean), Cond.methodLink RX4 169 yX0_findLevels, Cond.instanceMethod yX0_findLevels, Cond.selects RX0 yX0_findLevels yX0_findLevels, Cond.code yX0_findLevels cX0_findLevels 3 none, Cond.methodLink RX0 85 yX0_raiseLevel, Cond.instanceMethod yX0_raiseLevel, Cond.selects RX0 yX0_raiseLevel yX0_raiseLevel, Cond.code yX0_raiseLevel cX0_raiseLevel 5 none, Cond.methodLink RX0 89 Lib.Math.max.name, Cond.static Lib.Math.max.name, Cond.initialized "java/lang/Math", Cond.code Lib.Math.max.name Lib.Math.max.code 2 (some .int), Cond.methodLink RX6 113 yX2_follow, Cond.instanceMethod yX2_follow, Cond.selects RX2 yX2_follow yX2_follow, Cond.initialized RX2, Cond.code yX2_follow cX2_follow 2 none]
def wsX6_shapes_r13 : List Cond := [Cond.fieldLink RX2 28 "ShapeJudge$Judge" "book" "LShapeJudge$Book;", Cond.methodLink RX2 32 yX2_forget, Cond.instanceMethod yX2_forget, Cond.selects RX2 yX2_forget yX2_forget, Cond.code yX2_forget cX2_forget 1 none, Cond.fieldLink RX2 35 "ShapeJudge$Judge" "fittingIsRead" "Z", Cond.fieldLink RX2 39 "ShapeJudge$Judge" "sureIsRead" "Z"]
def wsX6_shapes : List Cond := .code yX6_shapes cX6_shapes 2 (some .int) :: ((wsX6_shapes_r1 ++ (wsX6_shapes_r2 ++ (wsX6_shapes_r3 ++ (wsX6_shapes_r4 ++ (wsX6_shapes_r5 ++ (wsX6_shapes_r6 ++ (wsX6_shapes_r7 ++ (wsX6_shapes_r8 ++ (wsX6_shapes_r9 ++ (wsX6_shapes_r10 ++ (wsX6_shapes_r11 ++ (wsX6_shapes_r12 ++ wsX6_shapes_r13)))))))))))) ++ wsX60 ++ wsX30 ++ wsX40 ++ wsX00 ++ wsX50 ++ wsX20)
def wsX6_fault : List Cond := .code yX6_fault cX6_fault 1 (some .int) :: ([.fieldLink RX6 51 "ShapeJudge" "latestFault" "I"] ++ wsX60)
def wsX6_isPair : List Cond := .code yX6_isPair cX6_isPair 3 (some .boolean) :: ([.fieldLink RX6 10 "ShapeJudge" "graph" "LShapeJudge$Graph;", .fieldLink RX6 35 "ShapeJudge" "book" "LShapeJudge$Book;", .methodLink RX6 65 yX1_hasNode, .instanceMethod yX1_hasNode, .selects RX1 yX1_hasNode yX1_hasNode, .initialized RX1, .code yX1_hasNode cX1_hasNode 2 (some .boolean), .fieldLink RX1 28 "ShapeJudge$Graph" "nodes" "I", .methodLink RX6 135 yX0_hasShape, .instanceMethod yX0_hasShape, .selects RX0 yX0_hasShape yX0_hasShape, .initialized RX0, .code yX0_hasShape cX0_hasShape 2 (some .boolean), .fieldLink RX0 52 "ShapeJudge$Book" "shapeCount" "I"] ++ wsX60 ++ wsX10 ++ wsX00)
def wsX6_fits_r1 : List Cond := [Cond.fieldLink RX6 47 "ShapeJudge" "judge" "LShapeJudge$Judge;", Cond.fieldLink RX6 126 "ShapeJudge$Judge" "fitting" "[I", Cond.methodLink RX6 119 yX6_isPair, Cond.instanceMethod yX6_isPair, Cond.selects RX6 yX6_isPair yX6_isPair, Cond.initialized RX6, Cond.code yX6_isPair cX6_isPair 3 (some .boolean), Cond.fieldLink RX6 10 "ShapeJudge" "graph" "LShapeJudge$Graph;", Cond.fieldLink RX6 35 "ShapeJudge" "book" "LShapeJudge$Book;", Cond.methodLink RX6 65 yX1_hasNode, Cond.instanceMethod yX1_hasNode, Cond.selects RX1 yX1_hasNode yX1_hasNode, Cond.initialized RX1, Cond.code yX1_hasNode cX1_hasNode 2 (some .boolean), Cond.fieldLink RX1 28 "ShapeJudge$Graph" "nodes" "I", Cond.methodLink RX6 135 yX0_hasShape, Cond.instanceMethod yX0_hasShape, Cond.selects RX0 yX0_hasShape yX0_hasShape, Cond.initialized RX0, Cond.code yX0_hasShape cX0_hasShape 2 (some .boolean), Cond.fieldLink RX0 52 "ShapeJudge$Book" "shapeCount" "I", Cond.methodLink RX6 123 yX2_readFits, Cond.instanceMethod yX2_readFits, Cond.selects RX2 yX2_readFits yX2_readFits]
def wsX6_fits_r2 : List Cond := [Cond.initialized RX2, Cond.code yX2_readFits cX2_readFits 4 none, Cond.fieldLink RX2 35 "ShapeJudge$Judge" "fittingIsRead" "Z", Cond.fieldLink RX2 9 "ShapeJudge$Judge" "fitting" "[I", Cond.fieldLink RX2 28 "ShapeJudge$Judge" "book" "LShapeJudge$Book;", Cond.fieldLink RX2 24 "ShapeJudge$Judge" "graph" "LShapeJudge$Graph;", Cond.fieldLink RX2 48 "ShapeJudge$Graph" "nodes" "I", Cond.methodLink RX2 42 yX0_hasShape, Cond.methodLink RX2 54 yX2_dropUnfit, Cond.instanceMethod yX2_dropUnfit, Cond.selects RX2 yX2_dropUnfit yX2_dropUnfit, Cond.code yX2_dropUnfit cX2_dropUnfit 5 (some .boolean), Cond.fieldLink RX2 57 "ShapeJudge$Book" "shapeCount" "I", Cond.fieldLink RX2 60 "ShapeJudge$Book" "level" "[I", Cond.methodLink RX2 63 yX2_suits, Cond.instanceMethod yX2_suits, Cond.selects RX2 yX2_suits yX2_suits, Cond.code yX2_suits cX2_suits 5 (some .boolean), Cond.fieldLink RX2 94 "ShapeJudge$Book" "closed" "[Z", Cond.methodLink RX2 90 yX2_wantedEdges, Cond.instanceMethod yX2_wantedEdges, Cond.selects RX2 yX2_wantedEdges yX2_wantedEdges, Cond.code yX2_wantedEdges cX2_wantedEdges 5 (some .int), Cond.fieldLink RX2 71 "ShapeJudge$Graph" "degrees" "[I"]
def wsX6_fits_r3 : List Cond := [Cond.fieldLink RX2 80 "ShapeJudge$Book" "names" "[I", Cond.fieldLink RX2 83 "ShapeJudge$Graph" "edgeName" "[I", Cond.methodLink RX2 86 yX2_presentEdges, Cond.instanceMethod yX2_presentEdges, Cond.selects RX2 yX2_presentEdges yX2_presentEdges, Cond.code yX2_presentEdges cX2_presentEdges 3 (some .int), Cond.fieldLink RX2 74 "ShapeJudge$Judge" "thinNode" "I", Cond.fieldLink RX2 77 "ShapeJudge$Judge" "goneEdges" "I", Cond.methodLink RX2 98 yX2_setsDealt, Cond.instanceMethod yX2_setsDealt, Cond.selects RX2 yX2_setsDealt yX2_setsDealt, Cond.code yX2_setsDealt cX2_setsDealt 8 (some .int), Cond.fieldLink RX2 102 "ShapeJudge$Book" "firstStep" "[I", Cond.fieldLink RX2 105 "ShapeJudge$Book" "steps" "[I", Cond.fieldLink RX2 21 "ShapeJudge$Judge" "stack" "[I", Cond.methodLink RX2 108 yX2_setsTaken, Cond.instanceMethod yX2_setsTaken, Cond.selects RX2 yX2_setsTaken yX2_setsTaken, Cond.code yX2_setsTaken cX2_setsTaken 9 (some .int), Cond.fieldLink RX2 18 "ShapeJudge$Judge" "allowed" "[I", Cond.fieldLink RX2 120 "ShapeJudge$Book" "partName" "[I", Cond.fieldLink RX2 123 "ShapeJudge$Graph" "edgeTo" "[I", Cond.methodLink RX2 126 yX2_passes, Cond.instanceMethod yX2_passes]
def wsX6_fits_r4 : List Cond := [Cond.selects RX2 yX2_passes yX2_passes, Cond.code yX2_passes cX2_passes 5 (some .boolean), Cond.fieldLink RX2 129 "ShapeJudge$Book" "partFirst" "[I", Cond.fieldLink RX2 132 "ShapeJudge$Book" "partTest" "[I", Cond.fieldLink RX2 135 "ShapeJudge$Graph" "valued" "[Z", Cond.fieldLink RX2 138 "ShapeJudge$Graph" "values" "[I", Cond.fieldLink RX2 141 "ShapeJudge$Book" "partSecond" "[I", Cond.methodLink RX2 111 yX2_times, Cond.instanceMethod yX2_times, Cond.selects RX2 yX2_times yX2_times, Cond.code yX2_times cX2_times 8 (some .int), Cond.methodLink RX2 114 yX2_both, Cond.static yX2_both, Cond.code yX2_both cX2_both 4 (some .int), Cond.fieldLink RX2 117 "ShapeJudge$Judge" "APART" "[I"]
def wsX6_fits : List Cond := .code yX6_fits cX6_fits 3 (some .int) :: ((wsX6_fits_r1 ++ (wsX6_fits_r2 ++ (wsX6_fits_r3 ++ wsX6_fits_r4))) ++ wsX60 ++ wsX20 ++ wsX10 ++ wsX00)
def wsX6_surely_r1 : List Cond := [Cond.fieldLink RX6 47 "ShapeJudge" "judge" "LShapeJudge$Judge;", Cond.fieldLink RX6 132 "ShapeJudge$Judge" "sure" "[I", Cond.methodLink RX6 119 yX6_isPair, Cond.instanceMethod yX6_isPair, Cond.selects RX6 yX6_isPair yX6_isPair, Cond.initialized RX6, Cond.code yX6_isPair cX6_isPair 3 (some .boolean), Cond.fieldLink RX6 10 "ShapeJudge" "graph" "LShapeJudge$Graph;", Cond.fieldLink RX6 35 "ShapeJudge" "book" "LShapeJudge$Book;", Cond.methodLink RX6 65 yX1_hasNode, Cond.instanceMethod yX1_hasNode, Cond.selects RX1 yX1_hasNode yX1_hasNode, Cond.initialized RX1, Cond.code yX1_hasNode cX1_hasNode 2 (some .boolean), Cond.fieldLink RX1 28 "ShapeJudge$Graph" "nodes" "I", Cond.methodLink RX6 135 yX0_hasShape, Cond.instanceMethod yX0_hasShape, Cond.selects RX0 yX0_hasShape yX0_hasShape, Cond.initialized RX0, Cond.code yX0_hasShape cX0_hasShape 2 (some .boolean), Cond.fieldLink RX0 52 "ShapeJudge$Book" "shapeCount" "I", Cond.methodLink RX6 123 yX2_readFits, Cond.instanceMethod yX2_readFits, Cond.selects RX2 yX2_readFits yX2_readFits]
def wsX6_surely_r2 : List Cond := [Cond.initialized RX2, Cond.code yX2_readFits cX2_readFits 4 none, Cond.fieldLink RX2 35 "ShapeJudge$Judge" "fittingIsRead" "Z", Cond.fieldLink RX2 9 "ShapeJudge$Judge" "fitting" "[I", Cond.fieldLink RX2 28 "ShapeJudge$Judge" "book" "LShapeJudge$Book;", Cond.fieldLink RX2 24 "ShapeJudge$Judge" "graph" "LShapeJudge$Graph;", Cond.fieldLink RX2 48 "ShapeJudge$Graph" "nodes" "I", Cond.methodLink RX2 42 yX0_hasShape, Cond.methodLink RX2 54 yX2_dropUnfit, Cond.instanceMethod yX2_dropUnfit, Cond.selects RX2 yX2_dropUnfit yX2_dropUnfit, Cond.code yX2_dropUnfit cX2_dropUnfit 5 (some .boolean), Cond.fieldLink RX2 57 "ShapeJudge$Book" "shapeCount" "I", Cond.fieldLink RX2 60 "ShapeJudge$Book" "level" "[I", Cond.methodLink RX2 63 yX2_suits, Cond.instanceMethod yX2_suits, Cond.selects RX2 yX2_suits yX2_suits, Cond.code yX2_suits cX2_suits 5 (some .boolean), Cond.fieldLink RX2 94 "ShapeJudge$Book" "closed" "[Z", Cond.methodLink RX2 90 yX2_wantedEdges, Cond.instanceMethod yX2_wantedEdges, Cond.selects RX2 yX2_wantedEdges yX2_wantedEdges, Cond.code yX2_wantedEdges cX2_wantedEdges 5 (some .int), Cond.fieldLink RX2 71 "ShapeJudge$Graph" "degrees" "[I"]
def wsX6_surely_r3 : List Cond := [Cond.fieldLink RX2 80 "ShapeJudge$Book" "names" "[I", Cond.fieldLink RX2 83 "ShapeJudge$Graph" "edgeName" "[I", Cond.methodLink RX2 86 yX2_presentEdges, Cond.instanceMethod yX2_presentEdges, Cond.selects RX2 yX2_presentEdges yX2_presentEdges, Cond.code yX2_presentEdges cX2_presentEdges 3 (some .int), Cond.fieldLink RX2 74 "ShapeJudge$Judge" "thinNode" "I", Cond.fieldLink RX2 77 "ShapeJudge$Judge" "goneEdges" "I", Cond.methodLink RX2 98 yX2_setsDealt, Cond.instanceMethod yX2_setsDealt, Cond.selects RX2 yX2_setsDealt yX2_setsDealt, Cond.code yX2_setsDealt cX2_setsDealt 8 (some .int), Cond.fieldLink RX2 102 "ShapeJudge$Book" "firstStep" "[I", Cond.fieldLink RX2 105 "ShapeJudge$Book" "steps" "[I", Cond.fieldLink RX2 21 "ShapeJudge$Judge" "stack" "[I", Cond.methodLink RX2 108 yX2_setsTaken, Cond.instanceMethod yX2_setsTaken, Cond.selects RX2 yX2_setsTaken yX2_setsTaken, Cond.code yX2_setsTaken cX2_setsTaken 9 (some .int), Cond.fieldLink RX2 18 "ShapeJudge$Judge" "allowed" "[I", Cond.fieldLink RX2 120 "ShapeJudge$Book" "partName" "[I", Cond.fieldLink RX2 123 "ShapeJudge$Graph" "edgeTo" "[I", Cond.methodLink RX2 126 yX2_passes, Cond.instanceMethod yX2_passes]
def wsX6_surely_r4 : List Cond := [Cond.selects RX2 yX2_passes yX2_passes, Cond.code yX2_passes cX2_passes 5 (some .boolean), Cond.fieldLink RX2 129 "ShapeJudge$Book" "partFirst" "[I", Cond.fieldLink RX2 132 "ShapeJudge$Book" "partTest" "[I", Cond.fieldLink RX2 135 "ShapeJudge$Graph" "valued" "[Z", Cond.fieldLink RX2 138 "ShapeJudge$Graph" "values" "[I", Cond.fieldLink RX2 141 "ShapeJudge$Book" "partSecond" "[I", Cond.methodLink RX2 111 yX2_times, Cond.instanceMethod yX2_times, Cond.selects RX2 yX2_times yX2_times, Cond.code yX2_times cX2_times 8 (some .int), Cond.methodLink RX2 114 yX2_both, Cond.static yX2_both, Cond.code yX2_both cX2_both 4 (some .int), Cond.fieldLink RX2 117 "ShapeJudge$Judge" "APART" "[I", Cond.methodLink RX6 129 yX2_readSure, Cond.instanceMethod yX2_readSure, Cond.selects RX2 yX2_readSure yX2_readSure, Cond.code yX2_readSure cX2_readSure 3 none, Cond.fieldLink RX2 39 "ShapeJudge$Judge" "sureIsRead" "Z", Cond.fieldLink RX2 15 "ShapeJudge$Judge" "sure" "[I", Cond.methodLink RX2 67 yX2_addSuiting, Cond.instanceMethod yX2_addSuiting, Cond.selects RX2 yX2_addSuiting yX2_addSuiting]
def wsX6_surely_r5 : List Cond := [Cond.code yX2_addSuiting cX2_addSuiting 4 (some .boolean)]
def wsX6_surely : List Cond := .code yX6_surely cX6_surely 3 (some .int) :: ((wsX6_surely_r1 ++ (wsX6_surely_r2 ++ (wsX6_surely_r3 ++ (wsX6_surely_r4 ++ wsX6_surely_r5)))) ++ wsX60 ++ wsX20 ++ wsX10 ++ wsX00)
def wsX6_all_r1 : List Cond := [Cond.fieldLink RX6 35 "ShapeJudge" "book" "LShapeJudge$Book;", Cond.fieldLink RX6 47 "ShapeJudge" "judge" "LShapeJudge$Judge;", Cond.fieldLink RX6 126 "ShapeJudge$Judge" "fitting" "[I", Cond.methodLink RX6 135 yX0_hasShape, Cond.instanceMethod yX0_hasShape, Cond.selects RX0 yX0_hasShape yX0_hasShape, Cond.initialized RX0, Cond.code yX0_hasShape cX0_hasShape 2 (some .boolean), Cond.fieldLink RX0 52 "ShapeJudge$Book" "shapeCount" "I", Cond.methodLink RX6 123 yX2_readFits, Cond.instanceMethod yX2_readFits, Cond.selects RX2 yX2_readFits yX2_readFits, Cond.initialized RX2, Cond.code yX2_readFits cX2_readFits 4 none, Cond.fieldLink RX2 35 "ShapeJudge$Judge" "fittingIsRead" "Z", Cond.fieldLink RX2 9 "ShapeJudge$Judge" "fitting" "[I", Cond.fieldLink RX2 28 "ShapeJudge$Judge" "book" "LShapeJudge$Book;", Cond.fieldLink RX2 24 "ShapeJudge$Judge" "graph" "LShapeJudge$Graph;", Cond.fieldLink RX2 48 "ShapeJudge$Graph" "nodes" "I", Cond.methodLink RX2 42 yX0_hasShape, Cond.methodLink RX2 54 yX2_dropUnfit, Cond.instanceMethod yX2_dropUnfit, Cond.selects RX2 yX2_dropUnfit yX2_dropUnfit, Cond.code yX2_dropUnfit cX2_dropUnfit 5 (some .boolean)]
def wsX6_all_r2 : List Cond := [Cond.fieldLink RX2 57 "ShapeJudge$Book" "shapeCount" "I", Cond.fieldLink RX2 60 "ShapeJudge$Book" "level" "[I", Cond.methodLink RX2 63 yX2_suits, Cond.instanceMethod yX2_suits, Cond.selects RX2 yX2_suits yX2_suits, Cond.code yX2_suits cX2_suits 5 (some .boolean), Cond.fieldLink RX2 94 "ShapeJudge$Book" "closed" "[Z", Cond.methodLink RX2 90 yX2_wantedEdges, Cond.instanceMethod yX2_wantedEdges, Cond.selects RX2 yX2_wantedEdges yX2_wantedEdges, Cond.code yX2_wantedEdges cX2_wantedEdges 5 (some .int), Cond.fieldLink RX2 71 "ShapeJudge$Graph" "degrees" "[I", Cond.fieldLink RX2 80 "ShapeJudge$Book" "names" "[I", Cond.fieldLink RX2 83 "ShapeJudge$Graph" "edgeName" "[I", Cond.methodLink RX2 86 yX2_presentEdges, Cond.instanceMethod yX2_presentEdges, Cond.selects RX2 yX2_presentEdges yX2_presentEdges, Cond.code yX2_presentEdges cX2_presentEdges 3 (some .int), Cond.fieldLink RX2 74 "ShapeJudge$Judge" "thinNode" "I", Cond.fieldLink RX2 77 "ShapeJudge$Judge" "goneEdges" "I", Cond.methodLink RX2 98 yX2_setsDealt, Cond.instanceMethod yX2_setsDealt, Cond.selects RX2 yX2_setsDealt yX2_setsDealt, Cond.code yX2_setsDealt cX2_setsDealt 8 (some .int)]
def wsX6_all_r3 : List Cond := [Cond.fieldLink RX2 102 "ShapeJudge$Book" "firstStep" "[I", Cond.fieldLink RX2 105 "ShapeJudge$Book" "steps" "[I", Cond.fieldLink RX2 21 "ShapeJudge$Judge" "stack" "[I", Cond.methodLink RX2 108 yX2_setsTaken, Cond.instanceMethod yX2_setsTaken, Cond.selects RX2 yX2_setsTaken yX2_setsTaken, Cond.code yX2_setsTaken cX2_setsTaken 9 (some .int), Cond.fieldLink RX2 18 "ShapeJudge$Judge" "allowed" "[I", Cond.fieldLink RX2 120 "ShapeJudge$Book" "partName" "[I", Cond.fieldLink RX2 123 "ShapeJudge$Graph" "edgeTo" "[I", Cond.methodLink RX2 126 yX2_passes, Cond.instanceMethod yX2_passes, Cond.selects RX2 yX2_passes yX2_passes, Cond.code yX2_passes cX2_passes 5 (some .boolean), Cond.fieldLink RX2 129 "ShapeJudge$Book" "partFirst" "[I", Cond.fieldLink RX2 132 "ShapeJudge$Book" "partTest" "[I", Cond.fieldLink RX2 135 "ShapeJudge$Graph" "valued" "[Z", Cond.fieldLink RX2 138 "ShapeJudge$Graph" "values" "[I", Cond.fieldLink RX2 141 "ShapeJudge$Book" "partSecond" "[I", Cond.methodLink RX2 111 yX2_times, Cond.instanceMethod yX2_times, Cond.selects RX2 yX2_times yX2_times, Cond.code yX2_times cX2_times 8 (some .int), Cond.methodLink RX2 114 yX2_both]
def wsX6_all_r4 : List Cond := [Cond.static yX2_both, Cond.code yX2_both cX2_both 4 (some .int), Cond.fieldLink RX2 117 "ShapeJudge$Judge" "APART" "[I"]
def wsX6_all : List Cond := .code yX6_all cX6_all 2 (some .int) :: ((wsX6_all_r1 ++ (wsX6_all_r2 ++ (wsX6_all_r3 ++ wsX6_all_r4))) ++ wsX60 ++ wsX20 ++ wsX00 ++ wsX10)
def wsX6_wanted_r1 : List Cond := [Cond.fieldLink RX6 47 "ShapeJudge" "judge" "LShapeJudge$Judge;", Cond.methodLink RX6 119 yX6_isPair, Cond.instanceMethod yX6_isPair, Cond.selects RX6 yX6_isPair yX6_isPair, Cond.initialized RX6, Cond.code yX6_isPair cX6_isPair 3 (some .boolean), Cond.fieldLink RX6 10 "ShapeJudge" "graph" "LShapeJudge$Graph;", Cond.fieldLink RX6 35 "ShapeJudge" "book" "LShapeJudge$Book;", Cond.methodLink RX6 65 yX1_hasNode, Cond.instanceMethod yX1_hasNode, Cond.selects RX1 yX1_hasNode yX1_hasNode, Cond.initialized RX1, Cond.code yX1_hasNode cX1_hasNode 2 (some .boolean), Cond.fieldLink RX1 28 "ShapeJudge$Graph" "nodes" "I", Cond.methodLink RX6 135 yX0_hasShape, Cond.instanceMethod yX0_hasShape, Cond.selects RX0 yX0_hasShape yX0_hasShape, Cond.initialized RX0, Cond.code yX0_hasShape cX0_hasShape 2 (some .boolean), Cond.fieldLink RX0 52 "ShapeJudge$Book" "shapeCount" "I", Cond.methodLink RX6 138 yX2_wantedEdges, Cond.instanceMethod yX2_wantedEdges, Cond.selects RX2 yX2_wantedEdges yX2_wantedEdges, Cond.initialized RX2]
def wsX6_wanted_r2 : List Cond := [Cond.code yX2_wantedEdges cX2_wantedEdges 5 (some .int), Cond.fieldLink RX2 24 "ShapeJudge$Judge" "graph" "LShapeJudge$Graph;", Cond.fieldLink RX2 71 "ShapeJudge$Graph" "degrees" "[I", Cond.fieldLink RX2 28 "ShapeJudge$Judge" "book" "LShapeJudge$Book;", Cond.fieldLink RX2 80 "ShapeJudge$Book" "names" "[I", Cond.fieldLink RX2 83 "ShapeJudge$Graph" "edgeName" "[I", Cond.methodLink RX2 86 yX2_presentEdges, Cond.instanceMethod yX2_presentEdges, Cond.selects RX2 yX2_presentEdges yX2_presentEdges, Cond.code yX2_presentEdges cX2_presentEdges 3 (some .int), Cond.fieldLink RX2 74 "ShapeJudge$Judge" "thinNode" "I", Cond.fieldLink RX2 77 "ShapeJudge$Judge" "goneEdges" "I", Cond.methodLink RX6 142 yJ6_bitCount_0f7a4, Cond.static yJ6_bitCount_0f7a4, Cond.initialized RJ6, Cond.code yJ6_bitCount_0f7a4 cJ6_bitCount_0f7a4 1 (some .int), Cond.constant RJ6 265 (1431655765), Cond.constant RJ6 266 (858993459), Cond.constant RJ6 267 (252645135)]
def wsX6_wanted : List Cond := .code yX6_wanted cX6_wanted 3 (some .int) :: ((wsX6_wanted_r1 ++ wsX6_wanted_r2) ++ wsX60 ++ wsX10 ++ wsX00 ++ wsX20)
def wsX6_dealt_r1 : List Cond := [Cond.fieldLink RX6 10 "ShapeJudge" "graph" "LShapeJudge$Graph;", Cond.fieldLink RX6 47 "ShapeJudge" "judge" "LShapeJudge$Judge;", Cond.fieldLink RX6 126 "ShapeJudge$Judge" "fitting" "[I", Cond.methodLink RX6 119 yX6_isPair, Cond.instanceMethod yX6_isPair, Cond.selects RX6 yX6_isPair yX6_isPair, Cond.initialized RX6, Cond.code yX6_isPair cX6_isPair 3 (some .boolean), Cond.fieldLink RX6 35 "ShapeJudge" "book" "LShapeJudge$Book;", Cond.methodLink RX6 65 yX1_hasNode, Cond.instanceMethod yX1_hasNode, Cond.selects RX1 yX1_hasNode yX1_hasNode, Cond.initialized RX1, Cond.code yX1_hasNode cX1_hasNode 2 (some .boolean), Cond.fieldLink RX1 28 "ShapeJudge$Graph" "nodes" "I", Cond.methodLink RX6 135 yX0_hasShape, Cond.instanceMethod yX0_hasShape, Cond.selects RX0 yX0_hasShape yX0_hasShape, Cond.initialized RX0, Cond.code yX0_hasShape cX0_hasShape 2 (some .boolean), Cond.fieldLink RX0 52 "ShapeJudge$Book" "shapeCount" "I", Cond.methodLink RX6 148 yX1_hasEdge, Cond.instanceMethod yX1_hasEdge, Cond.selects RX1 yX1_hasEdge yX1_hasEdge]
def wsX6_dealt_r2 : List Cond := [Cond.code yX1_hasEdge cX1_hasEdge 3 (some .boolean), Cond.fieldLink RX1 19 "ShapeJudge$Graph" "degrees" "[I", Cond.methodLink RX6 123 yX2_readFits, Cond.instanceMethod yX2_readFits, Cond.selects RX2 yX2_readFits yX2_readFits, Cond.initialized RX2, Cond.code yX2_readFits cX2_readFits 4 none, Cond.fieldLink RX2 35 "ShapeJudge$Judge" "fittingIsRead" "Z", Cond.fieldLink RX2 9 "ShapeJudge$Judge" "fitting" "[I", Cond.fieldLink RX2 28 "ShapeJudge$Judge" "book" "LShapeJudge$Book;", Cond.fieldLink RX2 24 "ShapeJudge$Judge" "graph" "LShapeJudge$Graph;", Cond.fieldLink RX2 48 "ShapeJudge$Graph" "nodes" "I", Cond.methodLink RX2 42 yX0_hasShape, Cond.methodLink RX2 54 yX2_dropUnfit, Cond.instanceMethod yX2_dropUnfit, Cond.selects RX2 yX2_dropUnfit yX2_dropUnfit, Cond.code yX2_dropUnfit cX2_dropUnfit 5 (some .boolean), Cond.fieldLink RX2 57 "ShapeJudge$Book" "shapeCount" "I", Cond.fieldLink RX2 60 "ShapeJudge$Book" "level" "[I", Cond.methodLink RX2 63 yX2_suits, Cond.instanceMethod yX2_suits, Cond.selects RX2 yX2_suits yX2_suits, Cond.code yX2_suits cX2_suits 5 (some .boolean), Cond.fieldLink RX2 94 "ShapeJudge$Book" "closed" "[Z"]
def wsX6_dealt_r3 : List Cond := [Cond.methodLink RX2 90 yX2_wantedEdges, Cond.instanceMethod yX2_wantedEdges, Cond.selects RX2 yX2_wantedEdges yX2_wantedEdges, Cond.code yX2_wantedEdges cX2_wantedEdges 5 (some .int), Cond.fieldLink RX2 71 "ShapeJudge$Graph" "degrees" "[I", Cond.fieldLink RX2 80 "ShapeJudge$Book" "names" "[I", Cond.fieldLink RX2 83 "ShapeJudge$Graph" "edgeName" "[I", Cond.methodLink RX2 86 yX2_presentEdges, Cond.instanceMethod yX2_presentEdges, Cond.selects RX2 yX2_presentEdges yX2_presentEdges, Cond.code yX2_presentEdges cX2_presentEdges 3 (some .int), Cond.fieldLink RX2 74 "ShapeJudge$Judge" "thinNode" "I", Cond.fieldLink RX2 77 "ShapeJudge$Judge" "goneEdges" "I", Cond.methodLink RX2 98 yX2_setsDealt, Cond.instanceMethod yX2_setsDealt, Cond.selects RX2 yX2_setsDealt yX2_setsDealt, Cond.code yX2_setsDealt cX2_setsDealt 8 (some .int), Cond.fieldLink RX2 102 "ShapeJudge$Book" "firstStep" "[I", Cond.fieldLink RX2 105 "ShapeJudge$Book" "steps" "[I", Cond.fieldLink RX2 21 "ShapeJudge$Judge" "stack" "[I", Cond.methodLink RX2 108 yX2_setsTaken, Cond.instanceMethod yX2_setsTaken, Cond.selects RX2 yX2_setsTaken yX2_setsTaken, Cond.code yX2_setsTaken cX2_setsTaken 9 (some .int)]
def wsX6_dealt_r4 : List Cond := [Cond.fieldLink RX2 18 "ShapeJudge$Judge" "allowed" "[I", Cond.fieldLink RX2 120 "ShapeJudge$Book" "partName" "[I", Cond.fieldLink RX2 123 "ShapeJudge$Graph" "edgeTo" "[I", Cond.methodLink RX2 126 yX2_passes, Cond.instanceMethod yX2_passes, Cond.selects RX2 yX2_passes yX2_passes, Cond.code yX2_passes cX2_passes 5 (some .boolean), Cond.fieldLink RX2 129 "ShapeJudge$Book" "partFirst" "[I", Cond.fieldLink RX2 132 "ShapeJudge$Book" "partTest" "[I", Cond.fieldLink RX2 135 "ShapeJudge$Graph" "valued" "[Z", Cond.fieldLink RX2 138 "ShapeJudge$Graph" "values" "[I", Cond.fieldLink RX2 141 "ShapeJudge$Book" "partSecond" "[I", Cond.methodLink RX2 111 yX2_times, Cond.instanceMethod yX2_times, Cond.selects RX2 yX2_times yX2_times, Cond.code yX2_times cX2_times 8 (some .int), Cond.methodLink RX2 114 yX2_both, Cond.static yX2_both, Cond.code yX2_both cX2_both 4 (some .int), Cond.fieldLink RX2 117 "ShapeJudge$Judge" "APART" "[I", Cond.methodLink RX6 138 yX2_wantedEdges, Cond.methodLink RX6 151 yX2_leastPartOf, Cond.instanceMethod yX2_leastPartOf, Cond.selects RX2 yX2_leastPartOf yX2_leastPartOf]
def wsX6_dealt_r5 : List Cond := [Cond.code yX2_leastPartOf cX2_leastPartOf 7 (some .int), Cond.methodLink RX2 144 yX2_bindToLeastPart, Cond.instanceMethod yX2_bindToLeastPart, Cond.selects RX2 yX2_bindToLeastPart yX2_bindToLeastPart, Cond.code yX2_bindToLeastPart cX2_bindToLeastPart 5 (some .int), Cond.fieldLink RX2 148 "ShapeJudge$Book" "partCount" "[I"]
def wsX6_dealt : List Cond := .code yX6_dealt cX6_dealt 4 (some .int) :: ((wsX6_dealt_r1 ++ (wsX6_dealt_r2 ++ (wsX6_dealt_r3 ++ (wsX6_dealt_r4 ++ wsX6_dealt_r5)))) ++ wsX60 ++ wsX20 ++ wsX10 ++ wsX00)
def wsX6_tooMany_r1 : List Cond := [Cond.fieldLink RX6 47 "ShapeJudge" "judge" "LShapeJudge$Judge;", Cond.methodLink RX6 119 yX6_isPair, Cond.instanceMethod yX6_isPair, Cond.selects RX6 yX6_isPair yX6_isPair, Cond.initialized RX6, Cond.code yX6_isPair cX6_isPair 3 (some .boolean), Cond.fieldLink RX6 10 "ShapeJudge" "graph" "LShapeJudge$Graph;", Cond.fieldLink RX6 35 "ShapeJudge" "book" "LShapeJudge$Book;", Cond.methodLink RX6 65 yX1_hasNode, Cond.instanceMethod yX1_hasNode, Cond.selects RX1 yX1_hasNode yX1_hasNode, Cond.initialized RX1, Cond.code yX1_hasNode cX1_hasNode 2 (some .boolean), Cond.fieldLink RX1 28 "ShapeJudge$Graph" "nodes" "I", Cond.methodLink RX6 135 yX0_hasShape, Cond.instanceMethod yX0_hasShape, Cond.selects RX0 yX0_hasShape yX0_hasShape, Cond.initialized RX0, Cond.code yX0_hasShape cX0_hasShape 2 (some .boolean), Cond.fieldLink RX0 52 "ShapeJudge$Book" "shapeCount" "I", Cond.methodLink RX6 154 yX2_surplusEdges, Cond.instanceMethod yX2_surplusEdges, Cond.selects RX2 yX2_surplusEdges yX2_surplusEdges, Cond.initialized RX2]
def wsX6_tooMany_r2 : List Cond := [Cond.code yX2_surplusEdges cX2_surplusEdges 7 (some .int), Cond.fieldLink RX2 9 "ShapeJudge$Judge" "fitting" "[I", Cond.fieldLink RX2 24 "ShapeJudge$Judge" "graph" "LShapeJudge$Graph;", Cond.fieldLink RX2 71 "ShapeJudge$Graph" "degrees" "[I", Cond.fieldLink RX2 74 "ShapeJudge$Judge" "thinNode" "I", Cond.fieldLink RX2 77 "ShapeJudge$Judge" "goneEdges" "I", Cond.methodLink RX2 151 yX2_readFits, Cond.instanceMethod yX2_readFits, Cond.selects RX2 yX2_readFits yX2_readFits, Cond.code yX2_readFits cX2_readFits 4 none, Cond.fieldLink RX2 35 "ShapeJudge$Judge" "fittingIsRead" "Z", Cond.fieldLink RX2 28 "ShapeJudge$Judge" "book" "LShapeJudge$Book;", Cond.fieldLink RX2 48 "ShapeJudge$Graph" "nodes" "I", Cond.methodLink RX2 42 yX0_hasShape, Cond.methodLink RX2 54 yX2_dropUnfit, Cond.instanceMethod yX2_dropUnfit, Cond.selects RX2 yX2_dropUnfit yX2_dropUnfit, Cond.code yX2_dropUnfit cX2_dropUnfit 5 (some .boolean), Cond.fieldLink RX2 57 "ShapeJudge$Book" "shapeCount" "I", Cond.fieldLink RX2 60 "ShapeJudge$Book" "level" "[I", Cond.methodLink RX2 63 yX2_suits, Cond.instanceMethod yX2_suits, Cond.selects RX2 yX2_suits yX2_suits, Cond.code yX2_suits cX2_suits 5 (some .boolean)]
def wsX6_tooMany_r3 : List Cond := [Cond.fieldLink RX2 94 "ShapeJudge$Book" "closed" "[Z", Cond.methodLink RX2 90 yX2_wantedEdges, Cond.instanceMethod yX2_wantedEdges, Cond.selects RX2 yX2_wantedEdges yX2_wantedEdges, Cond.code yX2_wantedEdges cX2_wantedEdges 5 (some .int), Cond.fieldLink RX2 80 "ShapeJudge$Book" "names" "[I", Cond.fieldLink RX2 83 "ShapeJudge$Graph" "edgeName" "[I", Cond.methodLink RX2 86 yX2_presentEdges, Cond.instanceMethod yX2_presentEdges, Cond.selects RX2 yX2_presentEdges yX2_presentEdges, Cond.code yX2_presentEdges cX2_presentEdges 3 (some .int), Cond.methodLink RX2 98 yX2_setsDealt, Cond.instanceMethod yX2_setsDealt, Cond.selects RX2 yX2_setsDealt yX2_setsDealt, Cond.code yX2_setsDealt cX2_setsDealt 8 (some .int), Cond.fieldLink RX2 102 "ShapeJudge$Book" "firstStep" "[I", Cond.fieldLink RX2 105 "ShapeJudge$Book" "steps" "[I", Cond.fieldLink RX2 21 "ShapeJudge$Judge" "stack" "[I", Cond.methodLink RX2 108 yX2_setsTaken, Cond.instanceMethod yX2_setsTaken, Cond.selects RX2 yX2_setsTaken yX2_setsTaken, Cond.code yX2_setsTaken cX2_setsTaken 9 (some .int), Cond.fieldLink RX2 18 "ShapeJudge$Judge" "allowed" "[I", Cond.fieldLink RX2 120 "ShapeJudge$Book" "partName" "[I"]
def wsX6_tooMany_r4 : List Cond := [Cond.fieldLink RX2 123 "ShapeJudge$Graph" "edgeTo" "[I", Cond.methodLink RX2 126 yX2_passes, Cond.instanceMethod yX2_passes, Cond.selects RX2 yX2_passes yX2_passes, Cond.code yX2_passes cX2_passes 5 (some .boolean), Cond.fieldLink RX2 129 "ShapeJudge$Book" "partFirst" "[I", Cond.fieldLink RX2 132 "ShapeJudge$Book" "partTest" "[I", Cond.fieldLink RX2 135 "ShapeJudge$Graph" "valued" "[Z", Cond.fieldLink RX2 138 "ShapeJudge$Graph" "values" "[I", Cond.fieldLink RX2 141 "ShapeJudge$Book" "partSecond" "[I", Cond.methodLink RX2 111 yX2_times, Cond.instanceMethod yX2_times, Cond.selects RX2 yX2_times yX2_times, Cond.code yX2_times cX2_times 8 (some .int), Cond.methodLink RX2 114 yX2_both, Cond.static yX2_both, Cond.code yX2_both cX2_both 4 (some .int), Cond.fieldLink RX2 117 "ShapeJudge$Judge" "APART" "[I", Cond.methodLink RX2 154 yJ6_bitCount_0f7a4, Cond.static yJ6_bitCount_0f7a4, Cond.initialized RJ6, Cond.code yJ6_bitCount_0f7a4 cJ6_bitCount_0f7a4 1 (some .int), Cond.constant RJ6 265 (1431655765), Cond.constant RJ6 266 (858993459)]
def wsX6_tooMany_r5 : List Cond := [Cond.constant RJ6 267 (252645135), Cond.methodLink RX2 32 yX2_forget, Cond.instanceMethod yX2_forget, Cond.selects RX2 yX2_forget yX2_forget, Cond.code yX2_forget cX2_forget 1 none, Cond.fieldLink RX2 39 "ShapeJudge$Judge" "sureIsRead" "Z", Cond.methodLink RX6 142 yJ6_bitCount_0f7a4]
def wsX6_tooMany : List Cond := .code yX6_tooMany cX6_tooMany 4 (some .int) :: ((wsX6_tooMany_r1 ++ (wsX6_tooMany_r2 ++ (wsX6_tooMany_r3 ++ (wsX6_tooMany_r4 ++ wsX6_tooMany_r5)))) ++ wsX60 ++ wsX10 ++ wsX00 ++ wsX20)
def wsX6_which_r1 : List Cond := [Cond.fieldLink RX6 47 "ShapeJudge" "judge" "LShapeJudge$Judge;", Cond.methodLink RX6 119 yX6_isPair, Cond.instanceMethod yX6_isPair, Cond.selects RX6 yX6_isPair yX6_isPair, Cond.initialized RX6, Cond.code yX6_isPair cX6_isPair 3 (some .boolean), Cond.fieldLink RX6 10 "ShapeJudge" "graph" "LShapeJudge$Graph;", Cond.fieldLink RX6 35 "ShapeJudge" "book" "LShapeJudge$Book;", Cond.methodLink RX6 65 yX1_hasNode, Cond.instanceMethod yX1_hasNode, Cond.selects RX1 yX1_hasNode yX1_hasNode, Cond.initialized RX1, Cond.code yX1_hasNode cX1_hasNode 2 (some .boolean), Cond.fieldLink RX1 28 "ShapeJudge$Graph" "nodes" "I", Cond.methodLink RX6 135 yX0_hasShape, Cond.instanceMethod yX0_hasShape, Cond.selects RX0 yX0_hasShape yX0_hasShape, Cond.initialized RX0, Cond.code yX0_hasShape cX0_hasShape 2 (some .boolean), Cond.fieldLink RX0 52 "ShapeJudge$Book" "shapeCount" "I", Cond.methodLink RX6 154 yX2_surplusEdges, Cond.instanceMethod yX2_surplusEdges, Cond.selects RX2 yX2_surplusEdges yX2_surplusEdges, Cond.initialized RX2]
def wsX6_which_r2 : List Cond := [Cond.code yX2_surplusEdges cX2_surplusEdges 7 (some .int), Cond.fieldLink RX2 9 "ShapeJudge$Judge" "fitting" "[I", Cond.fieldLink RX2 24 "ShapeJudge$Judge" "graph" "LShapeJudge$Graph;", Cond.fieldLink RX2 71 "ShapeJudge$Graph" "degrees" "[I", Cond.fieldLink RX2 74 "ShapeJudge$Judge" "thinNode" "I", Cond.fieldLink RX2 77 "ShapeJudge$Judge" "goneEdges" "I", Cond.methodLink RX2 151 yX2_readFits, Cond.instanceMethod yX2_readFits, Cond.selects RX2 yX2_readFits yX2_readFits, Cond.code yX2_readFits cX2_readFits 4 none, Cond.fieldLink RX2 35 "ShapeJudge$Judge" "fittingIsRead" "Z", Cond.fieldLink RX2 28 "ShapeJudge$Judge" "book" "LShapeJudge$Book;", Cond.fieldLink RX2 48 "ShapeJudge$Graph" "nodes" "I", Cond.methodLink RX2 42 yX0_hasShape, Cond.methodLink RX2 54 yX2_dropUnfit, Cond.instanceMethod yX2_dropUnfit, Cond.selects RX2 yX2_dropUnfit yX2_dropUnfit, Cond.code yX2_dropUnfit cX2_dropUnfit 5 (some .boolean), Cond.fieldLink RX2 57 "ShapeJudge$Book" "shapeCount" "I", Cond.fieldLink RX2 60 "ShapeJudge$Book" "level" "[I", Cond.methodLink RX2 63 yX2_suits, Cond.instanceMethod yX2_suits, Cond.selects RX2 yX2_suits yX2_suits, Cond.code yX2_suits cX2_suits 5 (some .boolean)]
def wsX6_which_r3 : List Cond := [Cond.fieldLink RX2 94 "ShapeJudge$Book" "closed" "[Z", Cond.methodLink RX2 90 yX2_wantedEdges, Cond.instanceMethod yX2_wantedEdges, Cond.selects RX2 yX2_wantedEdges yX2_wantedEdges, Cond.code yX2_wantedEdges cX2_wantedEdges 5 (some .int), Cond.fieldLink RX2 80 "ShapeJudge$Book" "names" "[I", Cond.fieldLink RX2 83 "ShapeJudge$Graph" "edgeName" "[I", Cond.methodLink RX2 86 yX2_presentEdges, Cond.instanceMethod yX2_presentEdges, Cond.selects RX2 yX2_presentEdges yX2_presentEdges, Cond.code yX2_presentEdges cX2_presentEdges 3 (some .int), Cond.methodLink RX2 98 yX2_setsDealt, Cond.instanceMethod yX2_setsDealt, Cond.selects RX2 yX2_setsDealt yX2_setsDealt, Cond.code yX2_setsDealt cX2_setsDealt 8 (some .int), Cond.fieldLink RX2 102 "ShapeJudge$Book" "firstStep" "[I", Cond.fieldLink RX2 105 "ShapeJudge$Book" "steps" "[I", Cond.fieldLink RX2 21 "ShapeJudge$Judge" "stack" "[I", Cond.methodLink RX2 108 yX2_setsTaken, Cond.instanceMethod yX2_setsTaken, Cond.selects RX2 yX2_setsTaken yX2_setsTaken, Cond.code yX2_setsTaken cX2_setsTaken 9 (some .int), Cond.fieldLink RX2 18 "ShapeJudge$Judge" "allowed" "[I", Cond.fieldLink RX2 120 "ShapeJudge$Book" "partName" "[I"]
def wsX6_which_r4 : List Cond := [Cond.fieldLink RX2 123 "ShapeJudge$Graph" "edgeTo" "[I", Cond.methodLink RX2 126 yX2_passes, Cond.instanceMethod yX2_passes, Cond.selects RX2 yX2_passes yX2_passes, Cond.code yX2_passes cX2_passes 5 (some .boolean), Cond.fieldLink RX2 129 "ShapeJudge$Book" "partFirst" "[I", Cond.fieldLink RX2 132 "ShapeJudge$Book" "partTest" "[I", Cond.fieldLink RX2 135 "ShapeJudge$Graph" "valued" "[Z", Cond.fieldLink RX2 138 "ShapeJudge$Graph" "values" "[I", Cond.fieldLink RX2 141 "ShapeJudge$Book" "partSecond" "[I", Cond.methodLink RX2 111 yX2_times, Cond.instanceMethod yX2_times, Cond.selects RX2 yX2_times yX2_times, Cond.code yX2_times cX2_times 8 (some .int), Cond.methodLink RX2 114 yX2_both, Cond.static yX2_both, Cond.code yX2_both cX2_both 4 (some .int), Cond.fieldLink RX2 117 "ShapeJudge$Judge" "APART" "[I", Cond.methodLink RX2 154 yJ6_bitCount_0f7a4, Cond.static yJ6_bitCount_0f7a4, Cond.initialized RJ6, Cond.code yJ6_bitCount_0f7a4 cJ6_bitCount_0f7a4 1 (some .int), Cond.constant RJ6 265 (1431655765), Cond.constant RJ6 266 (858993459)]
def wsX6_which_r5 : List Cond := [Cond.constant RJ6 267 (252645135), Cond.methodLink RX2 32 yX2_forget, Cond.instanceMethod yX2_forget, Cond.selects RX2 yX2_forget yX2_forget, Cond.code yX2_forget cX2_forget 1 none, Cond.fieldLink RX2 39 "ShapeJudge$Judge" "sureIsRead" "Z"]
def wsX6_which : List Cond := .code yX6_which cX6_which 4 (some .int) :: ((wsX6_which_r1 ++ (wsX6_which_r2 ++ (wsX6_which_r3 ++ (wsX6_which_r4 ++ wsX6_which_r5)))) ++ wsX60 ++ wsX10 ++ wsX00 ++ wsX20)
def wsX6_depends : List Cond := .code yX6_depends cX6_depends 3 (some .int) :: ([.fieldLink RX6 35 "ShapeJudge" "book" "LShapeJudge$Book;", .fieldLink RX6 157 "ShapeJudge$Book" "reach" "[I", .methodLink RX6 135 yX0_hasShape, .instanceMethod yX0_hasShape, .selects RX0 yX0_hasShape yX0_hasShape, .initialized RX0, .code yX0_hasShape cX0_hasShape 2 (some .boolean), .fieldLink RX0 52 "ShapeJudge$Book" "shapeCount" "I"] ++ wsX60 ++ wsX00)
def wsX6_part : List Cond := .code yX6_part cX6_part 5 (some .int) :: ([.fieldLink RX6 35 "ShapeJudge" "book" "LShapeJudge$Book;", .fieldLink RX6 163 "ShapeJudge$Book" "partName" "[I", .fieldLink RX6 166 "ShapeJudge$Book" "partTest" "[I", .fieldLink RX6 169 "ShapeJudge$Book" "partFirst" "[I", .fieldLink RX6 172 "ShapeJudge$Book" "partSecond" "[I", .methodLink RX6 160 yX0_hasPart, .instanceMethod yX0_hasPart, .selects RX0 yX0_hasPart yX0_hasPart, .initialized RX0, .code yX0_hasPart cX0_hasPart 3 (some .boolean), .fieldLink RX0 15 "ShapeJudge$Book" "partCount" "[I", .methodLink RX0 56 yX0_hasShape, .instanceMethod yX0_hasShape, .selects RX0 yX0_hasShape yX0_hasShape, .code yX0_hasShape cX0_hasShape 2 (some .boolean), .fieldLink RX0 52 "ShapeJudge$Book" "shapeCount" "I"] ++ wsX60 ++ wsX00)
def wsX6_told : List Cond := .code yX6_told cX6_told 3 (some .int) :: ([.fieldLink RX6 35 "ShapeJudge" "book" "LShapeJudge$Book;", .fieldLink RX6 175 "ShapeJudge$Book" "word" "[I", .fieldLink RX6 178 "ShapeJudge$Book" "partCount" "[I", .fieldLink RX6 181 "ShapeJudge$Book" "closed" "[Z", .methodLink RX6 135 yX0_hasShape, .instanceMethod yX0_hasShape, .selects RX0 yX0_hasShape yX0_hasShape, .initialized RX0, .code yX0_hasShape cX0_hasShape 2 (some .boolean), .fieldLink RX0 52 "ShapeJudge$Book" "shapeCount" "I"] ++ wsX60 ++ wsX00)
def wsX6_from : List Cond := .code yX6_from cX6_from 5 (some .int) :: ([.fieldLink RX6 10 "ShapeJudge" "graph" "LShapeJudge$Graph;", .fieldLink RX6 185 "ShapeJudge$Graph" "edgeName" "[I", .fieldLink RX6 188 "ShapeJudge$Graph" "edgeTo" "[I", .methodLink RX6 65 yX1_hasNode, .instanceMethod yX1_hasNode, .selects RX1 yX1_hasNode yX1_hasNode, .initialized RX1, .code yX1_hasNode cX1_hasNode 2 (some .boolean), .fieldLink RX1 28 "ShapeJudge$Graph" "nodes" "I", .methodLink RX6 148 yX1_hasEdge, .instanceMethod yX1_hasEdge, .selects RX1 yX1_hasEdge yX1_hasEdge, .code yX1_hasEdge cX1_hasEdge 3 (some .boolean), .fieldLink RX1 19 "ShapeJudge$Graph" "degrees" "[I"] ++ wsX60 ++ wsX10)
def wsX6_reset : List Cond := .code yX6_reset cX6_reset 2 (some .int) :: ([.fieldLink RX6 10 "ShapeJudge" "graph" "LShapeJudge$Graph;", .fieldLink RX6 55 "ShapeJudge$Graph" "nodes" "I", .fieldLink RX6 47 "ShapeJudge" "judge" "LShapeJudge$Judge;", .fieldLink RX6 51 "ShapeJudge" "latestFault" "I", .methodLink RX6 191 yX1_clear, .instanceMethod yX1_clear, .selects RX1 yX1_clear yX1_clear, .initialized RX1, .code yX1_clear cX1_clear 1 none, .fieldLink RX1 28 "ShapeJudge$Graph" "nodes" "I", .fieldLink RX1 36 "ShapeJudge$Graph" "edges" "I", .methodLink RX6 58 yX2_forget, .instanceMethod yX2_forget, .selects RX2 yX2_forget yX2_forget, .initialized RX2, .code yX2_forget cX2_forget 1 none, .fieldLink RX2 35 "ShapeJudge$Judge" "fittingIsRead" "Z", .fieldLink RX2 39 "ShapeJudge$Judge" "sureIsRead" "Z"] ++ wsX60 ++ wsX10 ++ wsX20)
def wsX6_pairsIn : List Cond := .code yX6_pairsIn cX6_pairsIn 4 (some .int) :: ([.fieldLink RX6 35 "ShapeJudge" "book" "LShapeJudge$Book;", .fieldLink RX6 116 "ShapeJudge$Book" "shapeCount" "I", .methodLink RX6 142 yJ6_bitCount_0f7a4, .static yJ6_bitCount_0f7a4, .initialized RJ6, .code yJ6_bitCount_0f7a4 cJ6_bitCount_0f7a4 1 (some .int), .constant RJ6 265 (1431655765), .constant RJ6 266 (858993459), .constant RJ6 267 (252645135)] ++ wsX60 ++ wsX00)
def wsX6_count_r1 : List Cond := [Cond.fieldLink RX6 10 "ShapeJudge" "graph" "LShapeJudge$Graph;", Cond.fieldLink RX6 55 "ShapeJudge$Graph" "nodes" "I", Cond.fieldLink RX6 81 "ShapeJudge$Graph" "edges" "I", Cond.fieldLink RX6 35 "ShapeJudge" "book" "LShapeJudge$Book;", Cond.fieldLink RX6 116 "ShapeJudge$Book" "shapeCount" "I", Cond.fieldLink RX6 19 "ShapeJudge" "tape" "LShapeJudge$Tape;", Cond.fieldLink RX6 96 "ShapeJudge$Tape" "length" "I", Cond.fieldLink RX6 47 "ShapeJudge" "judge" "LShapeJudge$Judge;", Cond.fieldLink RX6 126 "ShapeJudge$Judge" "fitting" "[I", Cond.fieldLink RX6 132 "ShapeJudge$Judge" "sure" "[I", Cond.methodLink RX6 123 yX2_readFits, Cond.instanceMethod yX2_readFits, Cond.selects RX2 yX2_readFits yX2_readFits, Cond.initialized RX2, Cond.code yX2_readFits cX2_readFits 4 none, Cond.fieldLink RX2 35 "ShapeJudge$Judge" "fittingIsRead" "Z", Cond.fieldLink RX2 9 "ShapeJudge$Judge" "fitting" "[I", Cond.fieldLink RX2 28 "ShapeJudge$Judge" "book" "LShapeJudge$Book;", Cond.fieldLink RX2 24 "ShapeJudge$Judge" "graph" "LShapeJudge$Graph;", Cond.fieldLink RX2 48 "ShapeJudge$Graph" "nodes" "I", Cond.methodLink RX2 42 yX0_hasShape, Cond.instanceMethod yX0_hasShape, Cond.selects RX0 yX0_hasShape yX0_hasShape, Cond.initialized RX0]
def wsX6_count_r2 : List Cond := [Cond.code yX0_hasShape cX0_hasShape 2 (some .boolean), Cond.fieldLink RX0 52 "ShapeJudge$Book" "shapeCount" "I", Cond.methodLink RX2 54 yX2_dropUnfit, Cond.instanceMethod yX2_dropUnfit, Cond.selects RX2 yX2_dropUnfit yX2_dropUnfit, Cond.code yX2_dropUnfit cX2_dropUnfit 5 (some .boolean), Cond.fieldLink RX2 57 "ShapeJudge$Book" "shapeCount" "I", Cond.fieldLink RX2 60 "ShapeJudge$Book" "level" "[I", Cond.methodLink RX2 63 yX2_suits, Cond.instanceMethod yX2_suits, Cond.selects RX2 yX2_suits yX2_suits, Cond.code yX2_suits cX2_suits 5 (some .boolean), Cond.fieldLink RX2 94 "ShapeJudge$Book" "closed" "[Z", Cond.methodLink RX2 90 yX2_wantedEdges, Cond.instanceMethod yX2_wantedEdges, Cond.selects RX2 yX2_wantedEdges yX2_wantedEdges, Cond.code yX2_wantedEdges cX2_wantedEdges 5 (some .int), Cond.fieldLink RX2 71 "ShapeJudge$Graph" "degrees" "[I", Cond.fieldLink RX2 80 "ShapeJudge$Book" "names" "[I", Cond.fieldLink RX2 83 "ShapeJudge$Graph" "edgeName" "[I", Cond.methodLink RX2 86 yX2_presentEdges, Cond.instanceMethod yX2_presentEdges, Cond.selects RX2 yX2_presentEdges yX2_presentEdges, Cond.code yX2_presentEdges cX2_presentEdges 3 (some .int)]
def wsX6_count_r3 : List Cond := [Cond.fieldLink RX2 74 "ShapeJudge$Judge" "thinNode" "I", Cond.fieldLink RX2 77 "ShapeJudge$Judge" "goneEdges" "I", Cond.methodLink RX2 98 yX2_setsDealt, Cond.instanceMethod yX2_setsDealt, Cond.selects RX2 yX2_setsDealt yX2_setsDealt, Cond.code yX2_setsDealt cX2_setsDealt 8 (some .int), Cond.fieldLink RX2 102 "ShapeJudge$Book" "firstStep" "[I", Cond.fieldLink RX2 105 "ShapeJudge$Book" "steps" "[I", Cond.fieldLink RX2 21 "ShapeJudge$Judge" "stack" "[I", Cond.methodLink RX2 108 yX2_setsTaken, Cond.instanceMethod yX2_setsTaken, Cond.selects RX2 yX2_setsTaken yX2_setsTaken, Cond.code yX2_setsTaken cX2_setsTaken 9 (some .int), Cond.fieldLink RX2 18 "ShapeJudge$Judge" "allowed" "[I", Cond.fieldLink RX2 120 "ShapeJudge$Book" "partName" "[I", Cond.fieldLink RX2 123 "ShapeJudge$Graph" "edgeTo" "[I", Cond.methodLink RX2 126 yX2_passes, Cond.instanceMethod yX2_passes, Cond.selects RX2 yX2_passes yX2_passes, Cond.code yX2_passes cX2_passes 5 (some .boolean), Cond.fieldLink RX2 129 "ShapeJudge$Book" "partFirst" "[I", Cond.fieldLink RX2 132 "ShapeJudge$Book" "partTest" "[I", Cond.fieldLink RX2 135 "ShapeJudge$Graph" "valued" "[Z", Cond.fieldLink RX2 138 "ShapeJudge$Graph" "values" "[I"]
def wsX6_count_r4 : List Cond := [Cond.fieldLink RX2 141 "ShapeJudge$Book" "partSecond" "[I", Cond.methodLink RX2 111 yX2_times, Cond.instanceMethod yX2_times, Cond.selects RX2 yX2_times yX2_times, Cond.code yX2_times cX2_times 8 (some .int), Cond.methodLink RX2 114 yX2_both, Cond.static yX2_both, Cond.code yX2_both cX2_both 4 (some .int), Cond.fieldLink RX2 117 "ShapeJudge$Judge" "APART" "[I", Cond.methodLink RX6 194 yX6_pairsIn, Cond.instanceMethod yX6_pairsIn, Cond.selects RX6 yX6_pairsIn yX6_pairsIn, Cond.initialized RX6, Cond.code yX6_pairsIn cX6_pairsIn 4 (some .int), Cond.methodLink RX6 142 yJ6_bitCount_0f7a4, Cond.static yJ6_bitCount_0f7a4, Cond.initialized RJ6, Cond.code yJ6_bitCount_0f7a4 cJ6_bitCount_0f7a4 1 (some .int), Cond.constant RJ6 265 (1431655765), Cond.constant RJ6 266 (858993459), Cond.constant RJ6 267 (252645135), Cond.methodLink RX6 129 yX2_readSure, Cond.instanceMethod yX2_readSure, Cond.selects RX2 yX2_readSure yX2_readSure]
def wsX6_count_r5 : List Cond := [Cond.code yX2_readSure cX2_readSure 3 none, Cond.fieldLink RX2 39 "ShapeJudge$Judge" "sureIsRead" "Z", Cond.fieldLink RX2 15 "ShapeJudge$Judge" "sure" "[I", Cond.methodLink RX2 67 yX2_addSuiting, Cond.instanceMethod yX2_addSuiting, Cond.selects RX2 yX2_addSuiting yX2_addSuiting, Cond.code yX2_addSuiting cX2_addSuiting 4 (some .boolean)]
def wsX6_count : List Cond := .code yX6_count cX6_count 2 (some .int) :: ((wsX6_count_r1 ++ (wsX6_count_r2 ++ (wsX6_count_r3 ++ (wsX6_count_r4 ++ wsX6_count_r5)))) ++ wsX60 ++ wsX10 ++ wsX00 ++ wsX30 ++ wsX20)
def wsX7_init_r1 : List Cond := [Cond.methodLink RX7 1 objectInit, Cond.instanceMethod objectInit, Cond.code objectInit ⟨#[0xb1]⟩ 1 none, Cond.arrayClass .boolean, Cond.fieldLink RX7 7 "ShapeJudgeModel" "hasValue" "[Z", Cond.arrayClass .int, Cond.fieldLink RX7 13 "ShapeJudgeModel" "values" "[I", Cond.fieldLink RX7 17 "ShapeJudgeModel" "many" "[I", Cond.fieldLink RX7 20 "ShapeJudgeModel" "names" "[I", Cond.fieldLink RX7 23 "ShapeJudgeModel" "tos" "[I", Cond.fieldLink RX7 26 "ShapeJudgeModel" "words" "[I", Cond.fieldLink RX7 29 "ShapeJudgeModel" "closed" "[Z", Cond.fieldLink RX7 32 "ShapeJudgeModel" "parts" "[I", Cond.fieldLink RX7 35 "ShapeJudgeModel" "pName" "[I", Cond.fieldLink RX7 38 "ShapeJudgeModel" "pTest" "[I", Cond.fieldLink RX7 41 "ShapeJudgeModel" "pFirst" "[I", Cond.fieldLink RX7 44 "ShapeJudgeModel" "pSecond" "[I", Cond.fieldLink RX7 47 "ShapeJudgeModel" "size" "[I", Cond.fieldLink RX7 50 "ShapeJudgeModel" "kind" "[I", Cond.fieldLink RX7 53 "ShapeJudgeModel" "around" "[I", Cond.fieldLink RX7 56 "ShapeJudgeModel" "least" "[I", Cond.fieldLink RX7 59 "ShapeJudgeModel" "most" "[I", Cond.fieldLink RX7 62 "ShapeJudgeModel" "partOf" "[I", Cond.fieldLink RX7 65 "ShapeJudgeModel" "dWords" "[I"]
def wsX7_init_r2 : List Cond := [Cond.fieldLink RX7 68 "ShapeJudgeModel" "dClosed" "[Z", Cond.fieldLink RX7 71 "ShapeJudgeModel" "dParts" "[I", Cond.fieldLink RX7 74 "ShapeJudgeModel" "dName" "[I", Cond.fieldLink RX7 77 "ShapeJudgeModel" "dTest" "[I", Cond.fieldLink RX7 80 "ShapeJudgeModel" "dFirst" "[I", Cond.fieldLink RX7 83 "ShapeJudgeModel" "dSecond" "[I", Cond.fieldLink RX7 86 "ShapeJudgeModel" "dPlace" "[I", Cond.fieldLink RX7 89 "ShapeJudgeModel" "dSize" "[I", Cond.fieldLink RX7 92 "ShapeJudgeModel" "dKind" "[I", Cond.fieldLink RX7 95 "ShapeJudgeModel" "dAround" "[I", Cond.fieldLink RX7 98 "ShapeJudgeModel" "dLeast" "[I", Cond.fieldLink RX7 101 "ShapeJudgeModel" "dMost" "[I", Cond.fieldLink RX7 104 "ShapeJudgeModel" "dPartOf" "[I", Cond.fieldLink RX7 107 "ShapeJudgeModel" "tape" "[I", Cond.fieldLink RX7 110 "ShapeJudgeModel" "eachAt" "[I", Cond.fieldLink RX7 113 "ShapeJudgeModel" "itemAt" "[I", Cond.fieldLink RX7 116 "ShapeJudgeModel" "leads" "[Z", Cond.fieldLink RX7 119 "ShapeJudgeModel" "fitting" "[Z", Cond.fieldLink RX7 122 "ShapeJudgeModel" "sure" "[Z", Cond.fieldLink RX7 125 "ShapeJudgeModel" "only" "[I", Cond.fieldLink RX7 128 "ShapeJudgeModel" "sets" "[I", Cond.fieldLink RX7 131 "ShapeJudgeModel" "ranks" "[I", Cond.fieldLink RX7 134 "ShapeJudgeModel" "keptNames" "[I", Cond.fieldLink RX7 137 "ShapeJudgeModel" "keptTos" "[I"]
def wsX7_init : List Cond := .code yX7_init cX7_init 1 none :: ((wsX7_init_r1 ++ wsX7_init_r2) ++ wsX70)
def wsX7_in : List Cond := .code yX7_in cX7_in 6 (some .boolean) :: ([])
def wsX7_isNode : List Cond := .code yX7_isNode cX7_isNode 2 (some .boolean) :: ([.fieldLink RX7 140 "ShapeJudgeModel" "nodes" "I", .methodLink RX7 144 yX7_in, .static yX7_in, .initialized RX7, .code yX7_in cX7_in 6 (some .boolean)] ++ wsX70)
def wsX7_node : List Cond := .code yX7_node cX7_node 3 (some .int) :: ([.fieldLink RX7 140 "ShapeJudgeModel" "nodes" "I", .fieldLink RX7 7 "ShapeJudgeModel" "hasValue" "[Z", .fieldLink RX7 13 "ShapeJudgeModel" "values" "[I", .fieldLink RX7 17 "ShapeJudgeModel" "many" "[I", .fieldLink RX7 148 "ShapeJudgeModel" "isRead" "Z"] ++ wsX70)
def wsX7_value : List Cond := .code yX7_value cX7_value 4 (some .int) :: ([.fieldLink RX7 7 "ShapeJudgeModel" "hasValue" "[Z", .fieldLink RX7 13 "ShapeJudgeModel" "values" "[I", .fieldLink RX7 148 "ShapeJudgeModel" "isRead" "Z", .methodLink RX7 152 yX7_isNode, .instanceMethod yX7_isNode, .selects RX7 yX7_isNode yX7_isNode, .initialized RX7, .code yX7_isNode cX7_isNode 2 (some .boolean), .fieldLink RX7 140 "ShapeJudgeModel" "nodes" "I", .methodLink RX7 144 yX7_in, .static yX7_in, .code yX7_in cX7_in 6 (some .boolean)] ++ wsX70)
def wsX7_edges : List Cond := .code yX7_edges cX7_edges 3 (some .int) :: ([.fieldLink RX7 140 "ShapeJudgeModel" "nodes" "I", .fieldLink RX7 17 "ShapeJudgeModel" "many" "[I"] ++ wsX70)
def wsX7_placeOf : List Cond := .code yX7_placeOf cX7_placeOf 5 (some .int) :: ([.fieldLink RX7 17 "ShapeJudgeModel" "many" "[I", .fieldLink RX7 20 "ShapeJudgeModel" "names" "[I", .fieldLink RX7 23 "ShapeJudgeModel" "tos" "[I"] ++ wsX70)
def wsX7_isThere : List Cond := .code yX7_isThere cX7_isThere 5 (some .boolean) :: ([.fieldLink RX7 17 "ShapeJudgeModel" "many" "[I", .fieldLink RX7 20 "ShapeJudgeModel" "names" "[I", .fieldLink RX7 23 "ShapeJudgeModel" "tos" "[I", .methodLink RX7 156 yX7_placeOf, .instanceMethod yX7_placeOf, .selects RX7 yX7_placeOf yX7_placeOf, .initialized RX7, .code yX7_placeOf cX7_placeOf 5 (some .int)] ++ wsX70)
def wsX7_edge_r1 : List Cond := [Cond.constantLong RX7 160 (9), Cond.fieldLink RX7 17 "ShapeJudgeModel" "many" "[I", Cond.fieldLink RX7 20 "ShapeJudgeModel" "names" "[I", Cond.fieldLink RX7 23 "ShapeJudgeModel" "tos" "[I", Cond.fieldLink RX7 148 "ShapeJudgeModel" "isRead" "Z", Cond.methodLink RX7 152 yX7_isNode, Cond.instanceMethod yX7_isNode, Cond.selects RX7 yX7_isNode yX7_isNode, Cond.initialized RX7, Cond.code yX7_isNode cX7_isNode 2 (some .boolean), Cond.fieldLink RX7 140 "ShapeJudgeModel" "nodes" "I", Cond.methodLink RX7 144 yX7_in, Cond.static yX7_in, Cond.code yX7_in cX7_in 6 (some .boolean), Cond.methodLink RX7 162 yX7_isThere, Cond.instanceMethod yX7_isThere, Cond.selects RX7 yX7_isThere yX7_isThere, Cond.code yX7_isThere cX7_isThere 5 (some .boolean), Cond.methodLink RX7 156 yX7_placeOf, Cond.instanceMethod yX7_placeOf, Cond.selects RX7 yX7_placeOf yX7_placeOf, Cond.code yX7_placeOf cX7_placeOf 5 (some .int), Cond.methodLink RX7 166 yX7_edges, Cond.instanceMethod yX7_edges]
def wsX7_edge_r2 : List Cond := [Cond.selects RX7 yX7_edges yX7_edges, Cond.code yX7_edges cX7_edges 3 (some .int)]
def wsX7_edge : List Cond := .code yX7_edge cX7_edge 6 (some .int) :: ((wsX7_edge_r1 ++ wsX7_edge_r2) ++ wsX70)
def wsX7_cut_r1 : List Cond := [Cond.constantLong RX7 160 (9), Cond.fieldLink RX7 17 "ShapeJudgeModel" "many" "[I", Cond.fieldLink RX7 20 "ShapeJudgeModel" "names" "[I", Cond.fieldLink RX7 23 "ShapeJudgeModel" "tos" "[I", Cond.fieldLink RX7 148 "ShapeJudgeModel" "isRead" "Z", Cond.methodLink RX7 152 yX7_isNode, Cond.instanceMethod yX7_isNode, Cond.selects RX7 yX7_isNode yX7_isNode, Cond.initialized RX7, Cond.code yX7_isNode cX7_isNode 2 (some .boolean), Cond.fieldLink RX7 140 "ShapeJudgeModel" "nodes" "I", Cond.methodLink RX7 144 yX7_in, Cond.static yX7_in, Cond.code yX7_in cX7_in 6 (some .boolean), Cond.methodLink RX7 162 yX7_isThere, Cond.instanceMethod yX7_isThere, Cond.selects RX7 yX7_isThere yX7_isThere, Cond.code yX7_isThere cX7_isThere 5 (some .boolean), Cond.methodLink RX7 156 yX7_placeOf, Cond.instanceMethod yX7_placeOf, Cond.selects RX7 yX7_placeOf yX7_placeOf, Cond.code yX7_placeOf cX7_placeOf 5 (some .int), Cond.methodLink RX7 166 yX7_edges, Cond.instanceMethod yX7_edges]
def wsX7_cut_r2 : List Cond := [Cond.selects RX7 yX7_edges yX7_edges, Cond.code yX7_edges cX7_edges 3 (some .int)]
def wsX7_cut : List Cond := .code yX7_cut cX7_cut 5 (some .int) :: ((wsX7_cut_r1 ++ wsX7_cut_r2) ++ wsX70)
def wsX7_put : List Cond := .code yX7_put cX7_put 3 none :: ([.fieldLink RX7 107 "ShapeJudgeModel" "tape" "[I", .fieldLink RX7 170 "ShapeJudgeModel" "taped" "I"] ++ wsX70)
def wsX7_feed : List Cond := .code yX7_feed cX7_feed 6 (some .int) :: ([.fieldLink RX7 170 "ShapeJudgeModel" "taped" "I", .methodLink RX7 173 yX7_put, .instanceMethod yX7_put, .selects RX7 yX7_put yX7_put, .initialized RX7, .code yX7_put cX7_put 3 none, .fieldLink RX7 107 "ShapeJudgeModel" "tape" "[I"] ++ wsX70)
def wsX7_end : List Cond := .code yX7_end cX7_end 3 (some .int) :: ([.fieldLink RX7 170 "ShapeJudgeModel" "taped" "I", .methodLink RX7 144 yX7_in, .static yX7_in, .initialized RX7, .code yX7_in cX7_in 6 (some .boolean)] ++ wsX70)
def wsX7_fails : List Cond := .code yX7_fails cX7_fails 3 none :: ([.fieldLink RX7 177 "ShapeJudgeModel" "fault" "I", .fieldLink RX7 180 "ShapeJudgeModel" "wrongAt" "I"] ++ wsX70)
def wsX7_look : List Cond := .code yX7_look cX7_look 2 (some .int) :: ([.fieldLink RX7 170 "ShapeJudgeModel" "taped" "I", .fieldLink RX7 107 "ShapeJudgeModel" "tape" "[I"] ++ wsX70)
def wsX7_isClosed : List Cond := .code yX7_isClosed cX7_isClosed 1 (some .boolean) :: ([.fieldLink RX7 183 "ShapeJudgeModel" "at" "I", .fieldLink RX7 186 "ShapeJudgeModel" "from" "I", .methodLink RX7 189 yX7_look, .instanceMethod yX7_look, .selects RX7 yX7_look yX7_look, .initialized RX7, .code yX7_look cX7_look 2 (some .int), .fieldLink RX7 170 "ShapeJudgeModel" "taped" "I", .fieldLink RX7 107 "ShapeJudgeModel" "tape" "[I"] ++ wsX70)
def wsX7_isSign : List Cond := .code yX7_isSign cX7_isSign 1 (some .boolean) :: ([])
def wsX7_next_r1 : List Cond := [Cond.fieldLink RX7 183 "ShapeJudgeModel" "at" "I", Cond.fieldLink RX7 186 "ShapeJudgeModel" "from" "I", Cond.fieldLink RX7 193 "ShapeJudgeModel" "sort" "I", Cond.constantLong RX7 196 (65), Cond.constantLong RX7 198 (90), Cond.fieldLink RX7 200 "ShapeJudgeModel" "value" "I", Cond.constantLong RX7 203 (48), Cond.constantLong RX7 205 (57), Cond.constantLong RX7 211 (97), Cond.constantLong RX7 213 (122), Cond.methodLink RX7 189 yX7_look, Cond.instanceMethod yX7_look, Cond.selects RX7 yX7_look yX7_look, Cond.initialized RX7, Cond.code yX7_look cX7_look 2 (some .int), Cond.fieldLink RX7 170 "ShapeJudgeModel" "taped" "I", Cond.fieldLink RX7 107 "ShapeJudgeModel" "tape" "[I", Cond.methodLink RX7 144 yX7_in, Cond.static yX7_in, Cond.code yX7_in cX7_in 6 (some .boolean), Cond.methodLink RX7 207 yX7_fails, Cond.instanceMethod yX7_fails, Cond.selects RX7 yX7_fails yX7_fails, Cond.code yX7_fails cX7_fails 3 none]
def wsX7_next_r2 : List Cond := [Cond.fieldLink RX7 177 "ShapeJudgeModel" "fault" "I", Cond.fieldLink RX7 180 "ShapeJudgeModel" "wrongAt" "I", Cond.methodLink RX7 215 yX7_isClosed, Cond.instanceMethod yX7_isClosed, Cond.selects RX7 yX7_isClosed yX7_isClosed, Cond.code yX7_isClosed cX7_isClosed 1 (some .boolean), Cond.methodLink RX7 219 yX7_isSign, Cond.static yX7_isSign, Cond.code yX7_isSign cX7_isSign 1 (some .boolean)]
def wsX7_next : List Cond := .code yX7_next cX7_next 3 none :: ((wsX7_next_r1 ++ wsX7_next_r2) ++ wsX70)
def wsX7_is : List Cond := .code yX7_is cX7_is 2 (some .boolean) :: ([.fieldLink RX7 177 "ShapeJudgeModel" "fault" "I", .fieldLink RX7 193 "ShapeJudgeModel" "sort" "I", .fieldLink RX7 200 "ShapeJudgeModel" "value" "I"] ++ wsX70)
def wsX7_taken_r1 : List Cond := [Cond.fieldLink RX7 177 "ShapeJudgeModel" "fault" "I", Cond.fieldLink RX7 193 "ShapeJudgeModel" "sort" "I", Cond.fieldLink RX7 186 "ShapeJudgeModel" "from" "I", Cond.fieldLink RX7 200 "ShapeJudgeModel" "value" "I", Cond.fieldLink RX7 222 "ShapeJudgeModel" "takenAt" "I", Cond.methodLink RX7 207 yX7_fails, Cond.instanceMethod yX7_fails, Cond.selects RX7 yX7_fails yX7_fails, Cond.initialized RX7, Cond.code yX7_fails cX7_fails 3 none, Cond.fieldLink RX7 180 "ShapeJudgeModel" "wrongAt" "I", Cond.methodLink RX7 225 yX7_next, Cond.instanceMethod yX7_next, Cond.selects RX7 yX7_next yX7_next, Cond.code yX7_next cX7_next 3 none, Cond.fieldLink RX7 183 "ShapeJudgeModel" "at" "I", Cond.constantLong RX7 196 (65), Cond.constantLong RX7 198 (90), Cond.constantLong RX7 203 (48), Cond.constantLong RX7 205 (57), Cond.constantLong RX7 211 (97), Cond.constantLong RX7 213 (122), Cond.methodLink RX7 189 yX7_look, Cond.instanceMethod yX7_look]
def wsX7_taken_r2 : List Cond := [Cond.selects RX7 yX7_look yX7_look, Cond.code yX7_look cX7_look 2 (some .int), Cond.fieldLink RX7 170 "ShapeJudgeModel" "taped" "I", Cond.fieldLink RX7 107 "ShapeJudgeModel" "tape" "[I", Cond.methodLink RX7 144 yX7_in, Cond.static yX7_in, Cond.code yX7_in cX7_in 6 (some .boolean), Cond.methodLink RX7 215 yX7_isClosed, Cond.instanceMethod yX7_isClosed, Cond.selects RX7 yX7_isClosed yX7_isClosed, Cond.code yX7_isClosed cX7_isClosed 1 (some .boolean), Cond.methodLink RX7 219 yX7_isSign, Cond.static yX7_isSign, Cond.code yX7_isSign cX7_isSign 1 (some .boolean)]
def wsX7_taken : List Cond := .code yX7_taken cX7_taken 3 (some .int) :: ((wsX7_taken_r1 ++ wsX7_taken_r2) ++ wsX70)
def wsX7_taken2_r1 : List Cond := [Cond.fieldLink RX7 177 "ShapeJudgeModel" "fault" "I", Cond.fieldLink RX7 186 "ShapeJudgeModel" "from" "I", Cond.methodLink RX7 228 yX7_is, Cond.instanceMethod yX7_is, Cond.selects RX7 yX7_is yX7_is, Cond.initialized RX7, Cond.code yX7_is cX7_is 2 (some .boolean), Cond.fieldLink RX7 193 "ShapeJudgeModel" "sort" "I", Cond.fieldLink RX7 200 "ShapeJudgeModel" "value" "I", Cond.methodLink RX7 207 yX7_fails, Cond.instanceMethod yX7_fails, Cond.selects RX7 yX7_fails yX7_fails, Cond.code yX7_fails cX7_fails 3 none, Cond.fieldLink RX7 180 "ShapeJudgeModel" "wrongAt" "I", Cond.methodLink RX7 225 yX7_next, Cond.instanceMethod yX7_next, Cond.selects RX7 yX7_next yX7_next, Cond.code yX7_next cX7_next 3 none, Cond.fieldLink RX7 183 "ShapeJudgeModel" "at" "I", Cond.constantLong RX7 196 (65), Cond.constantLong RX7 198 (90), Cond.constantLong RX7 203 (48), Cond.constantLong RX7 205 (57), Cond.constantLong RX7 211 (97)]
def wsX7_taken2_r2 : List Cond := [Cond.constantLong RX7 213 (122), Cond.methodLink RX7 189 yX7_look, Cond.instanceMethod yX7_look, Cond.selects RX7 yX7_look yX7_look, Cond.code yX7_look cX7_look 2 (some .int), Cond.fieldLink RX7 170 "ShapeJudgeModel" "taped" "I", Cond.fieldLink RX7 107 "ShapeJudgeModel" "tape" "[I", Cond.methodLink RX7 144 yX7_in, Cond.static yX7_in, Cond.code yX7_in cX7_in 6 (some .boolean), Cond.methodLink RX7 215 yX7_isClosed, Cond.instanceMethod yX7_isClosed, Cond.selects RX7 yX7_isClosed yX7_isClosed, Cond.code yX7_isClosed cX7_isClosed 1 (some .boolean), Cond.methodLink RX7 219 yX7_isSign, Cond.static yX7_isSign, Cond.code yX7_isSign cX7_isSign 1 (some .boolean)]
def wsX7_taken2 : List Cond := .code yX7_taken2 cX7_taken2 2 none :: ((wsX7_taken2_r1 ++ wsX7_taken2_r2) ++ wsX70)
def wsX7_number_r1 : List Cond := [Cond.fieldLink RX7 177 "ShapeJudgeModel" "fault" "I", Cond.fieldLink RX7 193 "ShapeJudgeModel" "sort" "I", Cond.fieldLink RX7 200 "ShapeJudgeModel" "value" "I", Cond.fieldLink RX7 186 "ShapeJudgeModel" "from" "I", Cond.methodLink RX7 144 yX7_in, Cond.static yX7_in, Cond.initialized RX7, Cond.code yX7_in cX7_in 6 (some .boolean), Cond.methodLink RX7 207 yX7_fails, Cond.instanceMethod yX7_fails, Cond.selects RX7 yX7_fails yX7_fails, Cond.code yX7_fails cX7_fails 3 none, Cond.fieldLink RX7 180 "ShapeJudgeModel" "wrongAt" "I", Cond.methodLink RX7 231 yX7_taken, Cond.instanceMethod yX7_taken, Cond.selects RX7 yX7_taken yX7_taken, Cond.code yX7_taken cX7_taken 3 (some .int), Cond.fieldLink RX7 222 "ShapeJudgeModel" "takenAt" "I", Cond.methodLink RX7 225 yX7_next, Cond.instanceMethod yX7_next, Cond.selects RX7 yX7_next yX7_next, Cond.code yX7_next cX7_next 3 none, Cond.fieldLink RX7 183 "ShapeJudgeModel" "at" "I", Cond.constantLong RX7 196 (65)]
def wsX7_number_r2 : List Cond := [Cond.constantLong RX7 198 (90), Cond.constantLong RX7 203 (48), Cond.constantLong RX7 205 (57), Cond.constantLong RX7 211 (97), Cond.constantLong RX7 213 (122), Cond.methodLink RX7 189 yX7_look, Cond.instanceMethod yX7_look, Cond.selects RX7 yX7_look yX7_look, Cond.code yX7_look cX7_look 2 (some .int), Cond.fieldLink RX7 170 "ShapeJudgeModel" "taped" "I", Cond.fieldLink RX7 107 "ShapeJudgeModel" "tape" "[I", Cond.methodLink RX7 215 yX7_isClosed, Cond.instanceMethod yX7_isClosed, Cond.selects RX7 yX7_isClosed yX7_isClosed, Cond.code yX7_isClosed cX7_isClosed 1 (some .boolean), Cond.methodLink RX7 219 yX7_isSign, Cond.static yX7_isSign, Cond.code yX7_isSign cX7_isSign 1 (some .boolean)]
def wsX7_number : List Cond := .code yX7_number cX7_number 3 (some .int) :: ((wsX7_number_r1 ++ wsX7_number_r2) ++ wsX70)
def wsX7_comes : List Cond := .code yX7_comes cX7_comes 4 (some .int) :: ([.fieldLink RX7 234 "ShapeJudgeModel" "dShapes" "I", .fieldLink RX7 89 "ShapeJudgeModel" "dSize" "[I", .fieldLink RX7 92 "ShapeJudgeModel" "dKind" "[I", .fieldLink RX7 95 "ShapeJudgeModel" "dAround" "[I", .fieldLink RX7 98 "ShapeJudgeModel" "dLeast" "[I", .fieldLink RX7 101 "ShapeJudgeModel" "dMost" "[I", .fieldLink RX7 104 "ShapeJudgeModel" "dPartOf" "[I"] ++ wsX70)
def wsX7_readPart_r1 : List Cond := [Cond.fieldLink RX7 177 "ShapeJudgeModel" "fault" "I", Cond.fieldLink RX7 200 "ShapeJudgeModel" "value" "I", Cond.constantLong RX7 160 (9), Cond.fieldLink RX7 186 "ShapeJudgeModel" "from" "I", Cond.fieldLink RX7 71 "ShapeJudgeModel" "dParts" "[I", Cond.fieldLink RX7 234 "ShapeJudgeModel" "dShapes" "I", Cond.fieldLink RX7 104 "ShapeJudgeModel" "dPartOf" "[I", Cond.fieldLink RX7 74 "ShapeJudgeModel" "dName" "[I", Cond.fieldLink RX7 80 "ShapeJudgeModel" "dFirst" "[I", Cond.fieldLink RX7 83 "ShapeJudgeModel" "dSecond" "[I", Cond.fieldLink RX7 86 "ShapeJudgeModel" "dPlace" "[I", Cond.fieldLink RX7 77 "ShapeJudgeModel" "dTest" "[I", Cond.fieldLink RX7 222 "ShapeJudgeModel" "takenAt" "I", Cond.fieldLink RX7 193 "ShapeJudgeModel" "sort" "I", Cond.methodLink RX7 144 yX7_in, Cond.static yX7_in, Cond.initialized RX7, Cond.code yX7_in cX7_in 6 (some .boolean), Cond.methodLink RX7 207 yX7_fails, Cond.instanceMethod yX7_fails, Cond.selects RX7 yX7_fails yX7_fails, Cond.code yX7_fails cX7_fails 3 none, Cond.fieldLink RX7 180 "ShapeJudgeModel" "wrongAt" "I", Cond.methodLink RX7 231 yX7_taken]
def wsX7_readPart_r2 : List Cond := [Cond.instanceMethod yX7_taken, Cond.selects RX7 yX7_taken yX7_taken, Cond.code yX7_taken cX7_taken 3 (some .int), Cond.methodLink RX7 225 yX7_next, Cond.instanceMethod yX7_next, Cond.selects RX7 yX7_next yX7_next, Cond.code yX7_next cX7_next 3 none, Cond.fieldLink RX7 183 "ShapeJudgeModel" "at" "I", Cond.constantLong RX7 196 (65), Cond.constantLong RX7 198 (90), Cond.constantLong RX7 203 (48), Cond.constantLong RX7 205 (57), Cond.constantLong RX7 211 (97), Cond.constantLong RX7 213 (122), Cond.methodLink RX7 189 yX7_look, Cond.instanceMethod yX7_look, Cond.selects RX7 yX7_look yX7_look, Cond.code yX7_look cX7_look 2 (some .int), Cond.fieldLink RX7 170 "ShapeJudgeModel" "taped" "I", Cond.fieldLink RX7 107 "ShapeJudgeModel" "tape" "[I", Cond.methodLink RX7 215 yX7_isClosed, Cond.instanceMethod yX7_isClosed, Cond.selects RX7 yX7_isClosed yX7_isClosed, Cond.code yX7_isClosed cX7_isClosed 1 (some .boolean)]
def wsX7_readPart_r3 : List Cond := [Cond.methodLink RX7 219 yX7_isSign, Cond.static yX7_isSign, Cond.code yX7_isSign cX7_isSign 1 (some .boolean), Cond.methodLink RX7 228 yX7_is, Cond.instanceMethod yX7_is, Cond.selects RX7 yX7_is yX7_is, Cond.code yX7_is cX7_is 2 (some .boolean)]
def wsX7_readPart : List Cond := .code yX7_readPart cX7_readPart 3 none :: ((wsX7_readPart_r1 ++ (wsX7_readPart_r2 ++ wsX7_readPart_r3)) ++ wsX70)
def wsX7_readCount_r1 : List Cond := [Cond.fieldLink RX7 98 "ShapeJudgeModel" "dLeast" "[I", Cond.fieldLink RX7 177 "ShapeJudgeModel" "fault" "I", Cond.fieldLink RX7 193 "ShapeJudgeModel" "sort" "I", Cond.fieldLink RX7 200 "ShapeJudgeModel" "value" "I", Cond.constantLong RX7 241 (5), Cond.fieldLink RX7 186 "ShapeJudgeModel" "from" "I", Cond.fieldLink RX7 101 "ShapeJudgeModel" "dMost" "[I", Cond.methodLink RX7 228 yX7_is, Cond.instanceMethod yX7_is, Cond.selects RX7 yX7_is yX7_is, Cond.initialized RX7, Cond.code yX7_is cX7_is 2 (some .boolean), Cond.methodLink RX7 225 yX7_next, Cond.instanceMethod yX7_next, Cond.selects RX7 yX7_next yX7_next, Cond.code yX7_next cX7_next 3 none, Cond.fieldLink RX7 183 "ShapeJudgeModel" "at" "I", Cond.constantLong RX7 196 (65), Cond.constantLong RX7 198 (90), Cond.constantLong RX7 203 (48), Cond.constantLong RX7 205 (57), Cond.constantLong RX7 211 (97), Cond.constantLong RX7 213 (122), Cond.methodLink RX7 189 yX7_look]
def wsX7_readCount_r2 : List Cond := [Cond.instanceMethod yX7_look, Cond.selects RX7 yX7_look yX7_look, Cond.code yX7_look cX7_look 2 (some .int), Cond.fieldLink RX7 170 "ShapeJudgeModel" "taped" "I", Cond.fieldLink RX7 107 "ShapeJudgeModel" "tape" "[I", Cond.methodLink RX7 144 yX7_in, Cond.static yX7_in, Cond.code yX7_in cX7_in 6 (some .boolean), Cond.methodLink RX7 207 yX7_fails, Cond.instanceMethod yX7_fails, Cond.selects RX7 yX7_fails yX7_fails, Cond.code yX7_fails cX7_fails 3 none, Cond.fieldLink RX7 180 "ShapeJudgeModel" "wrongAt" "I", Cond.methodLink RX7 215 yX7_isClosed, Cond.instanceMethod yX7_isClosed, Cond.selects RX7 yX7_isClosed yX7_isClosed, Cond.code yX7_isClosed cX7_isClosed 1 (some .boolean), Cond.methodLink RX7 219 yX7_isSign, Cond.static yX7_isSign, Cond.code yX7_isSign cX7_isSign 1 (some .boolean), Cond.methodLink RX7 237 yX7_number, Cond.instanceMethod yX7_number, Cond.selects RX7 yX7_number yX7_number, Cond.code yX7_number cX7_number 3 (some .int)]
def wsX7_readCount_r3 : List Cond := [Cond.methodLink RX7 231 yX7_taken, Cond.instanceMethod yX7_taken, Cond.selects RX7 yX7_taken yX7_taken, Cond.code yX7_taken cX7_taken 3 (some .int), Cond.fieldLink RX7 222 "ShapeJudgeModel" "takenAt" "I", Cond.methodLink RX7 243 yX7_taken2, Cond.instanceMethod yX7_taken2, Cond.selects RX7 yX7_taken2 yX7_taken2, Cond.code yX7_taken2 cX7_taken2 2 none]
def wsX7_readCount : List Cond := .code yX7_readCount cX7_readCount 2 none :: ((wsX7_readCount_r1 ++ (wsX7_readCount_r2 ++ wsX7_readCount_r3)) ++ wsX70)
def wsX7_readAny_r1 : List Cond := [Cond.fieldLink RX7 113 "ShapeJudgeModel" "itemAt" "[I", Cond.fieldLink RX7 110 "ShapeJudgeModel" "eachAt" "[I", Cond.fieldLink RX7 177 "ShapeJudgeModel" "fault" "I", Cond.fieldLink RX7 186 "ShapeJudgeModel" "from" "I", Cond.fieldLink RX7 193 "ShapeJudgeModel" "sort" "I", Cond.fieldLink RX7 95 "ShapeJudgeModel" "dAround" "[I", Cond.methodLink RX7 246 yX7_comes, Cond.instanceMethod yX7_comes, Cond.selects RX7 yX7_comes yX7_comes, Cond.initialized RX7, Cond.code yX7_comes cX7_comes 4 (some .int), Cond.fieldLink RX7 234 "ShapeJudgeModel" "dShapes" "I", Cond.fieldLink RX7 89 "ShapeJudgeModel" "dSize" "[I", Cond.fieldLink RX7 92 "ShapeJudgeModel" "dKind" "[I", Cond.fieldLink RX7 98 "ShapeJudgeModel" "dLeast" "[I", Cond.fieldLink RX7 101 "ShapeJudgeModel" "dMost" "[I", Cond.fieldLink RX7 104 "ShapeJudgeModel" "dPartOf" "[I", Cond.methodLink RX7 228 yX7_is, Cond.instanceMethod yX7_is, Cond.selects RX7 yX7_is yX7_is, Cond.code yX7_is cX7_is 2 (some .boolean), Cond.fieldLink RX7 200 "ShapeJudgeModel" "value" "I", Cond.methodLink RX7 207 yX7_fails, Cond.instanceMethod yX7_fails]
def wsX7_readAny_r2 : List Cond := [Cond.selects RX7 yX7_fails yX7_fails, Cond.code yX7_fails cX7_fails 3 none, Cond.fieldLink RX7 180 "ShapeJudgeModel" "wrongAt" "I", Cond.methodLink RX7 225 yX7_next, Cond.instanceMethod yX7_next, Cond.selects RX7 yX7_next yX7_next, Cond.code yX7_next cX7_next 3 none, Cond.fieldLink RX7 183 "ShapeJudgeModel" "at" "I", Cond.constantLong RX7 196 (65), Cond.constantLong RX7 198 (90), Cond.constantLong RX7 203 (48), Cond.constantLong RX7 205 (57), Cond.constantLong RX7 211 (97), Cond.constantLong RX7 213 (122), Cond.methodLink RX7 189 yX7_look, Cond.instanceMethod yX7_look, Cond.selects RX7 yX7_look yX7_look, Cond.code yX7_look cX7_look 2 (some .int), Cond.fieldLink RX7 170 "ShapeJudgeModel" "taped" "I", Cond.fieldLink RX7 107 "ShapeJudgeModel" "tape" "[I", Cond.methodLink RX7 144 yX7_in, Cond.static yX7_in, Cond.code yX7_in cX7_in 6 (some .boolean), Cond.methodLink RX7 215 yX7_isClosed]
def wsX7_readAny_r3 : List Cond := [Cond.instanceMethod yX7_isClosed, Cond.selects RX7 yX7_isClosed yX7_isClosed, Cond.code yX7_isClosed cX7_isClosed 1 (some .boolean), Cond.methodLink RX7 219 yX7_isSign, Cond.static yX7_isSign, Cond.code yX7_isSign cX7_isSign 1 (some .boolean), Cond.methodLink RX7 249 yX7_readPart, Cond.instanceMethod yX7_readPart, Cond.selects RX7 yX7_readPart yX7_readPart, Cond.code yX7_readPart cX7_readPart 3 none, Cond.constantLong RX7 160 (9), Cond.fieldLink RX7 71 "ShapeJudgeModel" "dParts" "[I", Cond.fieldLink RX7 74 "ShapeJudgeModel" "dName" "[I", Cond.fieldLink RX7 80 "ShapeJudgeModel" "dFirst" "[I", Cond.fieldLink RX7 83 "ShapeJudgeModel" "dSecond" "[I", Cond.fieldLink RX7 86 "ShapeJudgeModel" "dPlace" "[I", Cond.fieldLink RX7 77 "ShapeJudgeModel" "dTest" "[I", Cond.fieldLink RX7 222 "ShapeJudgeModel" "takenAt" "I", Cond.methodLink RX7 231 yX7_taken, Cond.instanceMethod yX7_taken, Cond.selects RX7 yX7_taken yX7_taken, Cond.code yX7_taken cX7_taken 3 (some .int), Cond.methodLink RX7 252 yX7_readCount, Cond.instanceMethod yX7_readCount]
def wsX7_readAny_r4 : List Cond := [Cond.selects RX7 yX7_readCount yX7_readCount, Cond.code yX7_readCount cX7_readCount 2 none, Cond.constantLong RX7 241 (5), Cond.methodLink RX7 237 yX7_number, Cond.instanceMethod yX7_number, Cond.selects RX7 yX7_number yX7_number, Cond.code yX7_number cX7_number 3 (some .int), Cond.methodLink RX7 243 yX7_taken2, Cond.instanceMethod yX7_taken2, Cond.selects RX7 yX7_taken2 yX7_taken2, Cond.code yX7_taken2 cX7_taken2 2 none]
def wsX7_readAny : List Cond := .code yX7_readAny cX7_readAny 5 none :: ((wsX7_readAny_r1 ++ (wsX7_readAny_r2 ++ (wsX7_readAny_r3 ++ wsX7_readAny_r4))) ++ wsX70)
def wsX7_readShape_r1 : List Cond := [Cond.fieldLink RX7 177 "ShapeJudgeModel" "fault" "I", Cond.fieldLink RX7 193 "ShapeJudgeModel" "sort" "I", Cond.fieldLink RX7 186 "ShapeJudgeModel" "from" "I", Cond.fieldLink RX7 234 "ShapeJudgeModel" "dShapes" "I", Cond.fieldLink RX7 65 "ShapeJudgeModel" "dWords" "[I", Cond.fieldLink RX7 200 "ShapeJudgeModel" "value" "I", Cond.fieldLink RX7 89 "ShapeJudgeModel" "dSize" "[I", Cond.fieldLink RX7 71 "ShapeJudgeModel" "dParts" "[I", Cond.fieldLink RX7 68 "ShapeJudgeModel" "dClosed" "[Z", Cond.methodLink RX7 207 yX7_fails, Cond.instanceMethod yX7_fails, Cond.selects RX7 yX7_fails yX7_fails, Cond.initialized RX7, Cond.code yX7_fails cX7_fails 3 none, Cond.fieldLink RX7 180 "ShapeJudgeModel" "wrongAt" "I", Cond.methodLink RX7 231 yX7_taken, Cond.instanceMethod yX7_taken, Cond.selects RX7 yX7_taken yX7_taken, Cond.code yX7_taken cX7_taken 3 (some .int), Cond.fieldLink RX7 222 "ShapeJudgeModel" "takenAt" "I", Cond.methodLink RX7 225 yX7_next, Cond.instanceMethod yX7_next, Cond.selects RX7 yX7_next yX7_next, Cond.code yX7_next cX7_next 3 none]
def wsX7_readShape_r2 : List Cond := [Cond.fieldLink RX7 183 "ShapeJudgeModel" "at" "I", Cond.constantLong RX7 196 (65), Cond.constantLong RX7 198 (90), Cond.constantLong RX7 203 (48), Cond.constantLong RX7 205 (57), Cond.constantLong RX7 211 (97), Cond.constantLong RX7 213 (122), Cond.methodLink RX7 189 yX7_look, Cond.instanceMethod yX7_look, Cond.selects RX7 yX7_look yX7_look, Cond.code yX7_look cX7_look 2 (some .int), Cond.fieldLink RX7 170 "ShapeJudgeModel" "taped" "I", Cond.fieldLink RX7 107 "ShapeJudgeModel" "tape" "[I", Cond.methodLink RX7 144 yX7_in, Cond.static yX7_in, Cond.code yX7_in cX7_in 6 (some .boolean), Cond.methodLink RX7 215 yX7_isClosed, Cond.instanceMethod yX7_isClosed, Cond.selects RX7 yX7_isClosed yX7_isClosed, Cond.code yX7_isClosed cX7_isClosed 1 (some .boolean), Cond.methodLink RX7 219 yX7_isSign, Cond.static yX7_isSign, Cond.code yX7_isSign cX7_isSign 1 (some .boolean), Cond.methodLink RX7 243 yX7_taken2]
def wsX7_readShape_r3 : List Cond := [Cond.instanceMethod yX7_taken2, Cond.selects RX7 yX7_taken2 yX7_taken2, Cond.code yX7_taken2 cX7_taken2 2 none, Cond.methodLink RX7 228 yX7_is, Cond.instanceMethod yX7_is, Cond.selects RX7 yX7_is yX7_is, Cond.code yX7_is cX7_is 2 (some .boolean), Cond.methodLink RX7 255 yX7_readAny, Cond.instanceMethod yX7_readAny, Cond.selects RX7 yX7_readAny yX7_readAny, Cond.code yX7_readAny cX7_readAny 5 none, Cond.fieldLink RX7 113 "ShapeJudgeModel" "itemAt" "[I", Cond.fieldLink RX7 110 "ShapeJudgeModel" "eachAt" "[I", Cond.fieldLink RX7 95 "ShapeJudgeModel" "dAround" "[I", Cond.methodLink RX7 246 yX7_comes, Cond.instanceMethod yX7_comes, Cond.selects RX7 yX7_comes yX7_comes, Cond.code yX7_comes cX7_comes 4 (some .int), Cond.fieldLink RX7 92 "ShapeJudgeModel" "dKind" "[I", Cond.fieldLink RX7 98 "ShapeJudgeModel" "dLeast" "[I", Cond.fieldLink RX7 101 "ShapeJudgeModel" "dMost" "[I", Cond.fieldLink RX7 104 "ShapeJudgeModel" "dPartOf" "[I", Cond.methodLink RX7 249 yX7_readPart, Cond.instanceMethod yX7_readPart]
def wsX7_readShape_r4 : List Cond := [Cond.selects RX7 yX7_readPart yX7_readPart, Cond.code yX7_readPart cX7_readPart 3 none, Cond.constantLong RX7 160 (9), Cond.fieldLink RX7 74 "ShapeJudgeModel" "dName" "[I", Cond.fieldLink RX7 80 "ShapeJudgeModel" "dFirst" "[I", Cond.fieldLink RX7 83 "ShapeJudgeModel" "dSecond" "[I", Cond.fieldLink RX7 86 "ShapeJudgeModel" "dPlace" "[I", Cond.fieldLink RX7 77 "ShapeJudgeModel" "dTest" "[I", Cond.methodLink RX7 252 yX7_readCount, Cond.instanceMethod yX7_readCount, Cond.selects RX7 yX7_readCount yX7_readCount, Cond.code yX7_readCount cX7_readCount 2 none, Cond.constantLong RX7 241 (5), Cond.methodLink RX7 237 yX7_number, Cond.instanceMethod yX7_number, Cond.selects RX7 yX7_number yX7_number, Cond.code yX7_number cX7_number 3 (some .int)]
def wsX7_readShape : List Cond := .code yX7_readShape cX7_readShape 2 none :: ((wsX7_readShape_r1 ++ (wsX7_readShape_r2 ++ (wsX7_readShape_r3 ++ wsX7_readShape_r4))) ++ wsX70)
def wsX7_wordAt : List Cond := .code yX7_wordAt cX7_wordAt 3 (some .int) :: ([.fieldLink RX7 234 "ShapeJudgeModel" "dShapes" "I", .fieldLink RX7 65 "ShapeJudgeModel" "dWords" "[I"] ++ wsX70)
def wsX7_findLeads : List Cond := .code yX7_findLeads cX7_findLeads 7 none :: ([.fieldLink RX7 234 "ShapeJudgeModel" "dShapes" "I", .fieldLink RX7 258 "ShapeJudgeModel" "shapes" "I", .fieldLink RX7 116 "ShapeJudgeModel" "leads" "[Z", .fieldLink RX7 71 "ShapeJudgeModel" "dParts" "[I", .fieldLink RX7 32 "ShapeJudgeModel" "parts" "[I", .fieldLink RX7 77 "ShapeJudgeModel" "dTest" "[I", .fieldLink RX7 38 "ShapeJudgeModel" "pTest" "[I", .fieldLink RX7 80 "ShapeJudgeModel" "dFirst" "[I", .fieldLink RX7 41 "ShapeJudgeModel" "pFirst" "[I"] ++ wsX70)
def wsX7_settleWords_r1 : List Cond := [Cond.fieldLink RX7 234 "ShapeJudgeModel" "dShapes" "I", Cond.fieldLink RX7 177 "ShapeJudgeModel" "fault" "I", Cond.fieldLink RX7 71 "ShapeJudgeModel" "dParts" "[I", Cond.fieldLink RX7 77 "ShapeJudgeModel" "dTest" "[I", Cond.fieldLink RX7 80 "ShapeJudgeModel" "dFirst" "[I", Cond.fieldLink RX7 86 "ShapeJudgeModel" "dPlace" "[I", Cond.fieldLink RX7 116 "ShapeJudgeModel" "leads" "[Z", Cond.methodLink RX7 261 yX7_wordAt, Cond.instanceMethod yX7_wordAt, Cond.selects RX7 yX7_wordAt yX7_wordAt, Cond.initialized RX7, Cond.code yX7_wordAt cX7_wordAt 3 (some .int), Cond.fieldLink RX7 65 "ShapeJudgeModel" "dWords" "[I", Cond.methodLink RX7 207 yX7_fails, Cond.instanceMethod yX7_fails, Cond.selects RX7 yX7_fails yX7_fails, Cond.code yX7_fails cX7_fails 3 none, Cond.fieldLink RX7 180 "ShapeJudgeModel" "wrongAt" "I", Cond.methodLink RX7 264 yX7_findLeads, Cond.instanceMethod yX7_findLeads, Cond.selects RX7 yX7_findLeads yX7_findLeads, Cond.code yX7_findLeads cX7_findLeads 7 none, Cond.fieldLink RX7 258 "ShapeJudgeModel" "shapes" "I", Cond.fieldLink RX7 32 "ShapeJudgeModel" "parts" "[I"]
def wsX7_settleWords_r2 : List Cond := [Cond.fieldLink RX7 38 "ShapeJudgeModel" "pTest" "[I", Cond.fieldLink RX7 41 "ShapeJudgeModel" "pFirst" "[I"]
def wsX7_settleWords : List Cond := .code yX7_settleWords cX7_settleWords 5 none :: ((wsX7_settleWords_r1 ++ wsX7_settleWords_r2) ++ wsX70)
def wsX7_shapes_r1 : List Cond := [Cond.fieldLink RX7 177 "ShapeJudgeModel" "fault" "I", Cond.fieldLink RX7 183 "ShapeJudgeModel" "at" "I", Cond.fieldLink RX7 234 "ShapeJudgeModel" "dShapes" "I", Cond.fieldLink RX7 193 "ShapeJudgeModel" "sort" "I", Cond.fieldLink RX7 170 "ShapeJudgeModel" "taped" "I", Cond.fieldLink RX7 180 "ShapeJudgeModel" "wrongAt" "I", Cond.fieldLink RX7 258 "ShapeJudgeModel" "shapes" "I", Cond.fieldLink RX7 26 "ShapeJudgeModel" "words" "[I", Cond.fieldLink RX7 65 "ShapeJudgeModel" "dWords" "[I", Cond.fieldLink RX7 29 "ShapeJudgeModel" "closed" "[Z", Cond.fieldLink RX7 68 "ShapeJudgeModel" "dClosed" "[Z", Cond.fieldLink RX7 32 "ShapeJudgeModel" "parts" "[I", Cond.fieldLink RX7 71 "ShapeJudgeModel" "dParts" "[I", Cond.fieldLink RX7 47 "ShapeJudgeModel" "size" "[I", Cond.fieldLink RX7 89 "ShapeJudgeModel" "dSize" "[I", Cond.fieldLink RX7 35 "ShapeJudgeModel" "pName" "[I", Cond.fieldLink RX7 74 "ShapeJudgeModel" "dName" "[I", Cond.fieldLink RX7 38 "ShapeJudgeModel" "pTest" "[I", Cond.fieldLink RX7 77 "ShapeJudgeModel" "dTest" "[I", Cond.fieldLink RX7 41 "ShapeJudgeModel" "pFirst" "[I", Cond.fieldLink RX7 80 "ShapeJudgeModel" "dFirst" "[I", Cond.fieldLink RX7 44 "ShapeJudgeModel" "pSecond" "[I", Cond.fieldLink RX7 83 "ShapeJudgeModel" "dSecond" "[I", Cond.fieldLink RX7 50 "ShapeJudgeModel" "kind" "[I"]
def wsX7_shapes_r2 : List Cond := [Cond.fieldLink RX7 92 "ShapeJudgeModel" "dKind" "[I", Cond.fieldLink RX7 53 "ShapeJudgeModel" "around" "[I", Cond.fieldLink RX7 95 "ShapeJudgeModel" "dAround" "[I", Cond.fieldLink RX7 56 "ShapeJudgeModel" "least" "[I", Cond.fieldLink RX7 98 "ShapeJudgeModel" "dLeast" "[I", Cond.fieldLink RX7 59 "ShapeJudgeModel" "most" "[I", Cond.fieldLink RX7 101 "ShapeJudgeModel" "dMost" "[I", Cond.fieldLink RX7 62 "ShapeJudgeModel" "partOf" "[I", Cond.fieldLink RX7 104 "ShapeJudgeModel" "dPartOf" "[I", Cond.fieldLink RX7 148 "ShapeJudgeModel" "isRead" "Z", Cond.methodLink RX7 225 yX7_next, Cond.instanceMethod yX7_next, Cond.selects RX7 yX7_next yX7_next, Cond.initialized RX7, Cond.code yX7_next cX7_next 3 none, Cond.fieldLink RX7 186 "ShapeJudgeModel" "from" "I", Cond.constantLong RX7 196 (65), Cond.constantLong RX7 198 (90), Cond.fieldLink RX7 200 "ShapeJudgeModel" "value" "I", Cond.constantLong RX7 203 (48), Cond.constantLong RX7 205 (57), Cond.constantLong RX7 211 (97), Cond.constantLong RX7 213 (122), Cond.methodLink RX7 189 yX7_look]
def wsX7_shapes_r3 : List Cond := [Cond.instanceMethod yX7_look, Cond.selects RX7 yX7_look yX7_look, Cond.code yX7_look cX7_look 2 (some .int), Cond.fieldLink RX7 107 "ShapeJudgeModel" "tape" "[I", Cond.methodLink RX7 144 yX7_in, Cond.static yX7_in, Cond.code yX7_in cX7_in 6 (some .boolean), Cond.methodLink RX7 207 yX7_fails, Cond.instanceMethod yX7_fails, Cond.selects RX7 yX7_fails yX7_fails, Cond.code yX7_fails cX7_fails 3 none, Cond.methodLink RX7 215 yX7_isClosed, Cond.instanceMethod yX7_isClosed, Cond.selects RX7 yX7_isClosed yX7_isClosed, Cond.code yX7_isClosed cX7_isClosed 1 (some .boolean), Cond.methodLink RX7 219 yX7_isSign, Cond.static yX7_isSign, Cond.code yX7_isSign cX7_isSign 1 (some .boolean), Cond.methodLink RX7 268 yX7_readShape, Cond.instanceMethod yX7_readShape, Cond.selects RX7 yX7_readShape yX7_readShape, Cond.code yX7_readShape cX7_readShape 2 none, Cond.methodLink RX7 231 yX7_taken, Cond.instanceMethod yX7_taken]
def wsX7_shapes_r4 : List Cond := [Cond.selects RX7 yX7_taken yX7_taken, Cond.code yX7_taken cX7_taken 3 (some .int), Cond.fieldLink RX7 222 "ShapeJudgeModel" "takenAt" "I", Cond.methodLink RX7 243 yX7_taken2, Cond.instanceMethod yX7_taken2, Cond.selects RX7 yX7_taken2 yX7_taken2, Cond.code yX7_taken2 cX7_taken2 2 none, Cond.methodLink RX7 228 yX7_is, Cond.instanceMethod yX7_is, Cond.selects RX7 yX7_is yX7_is, Cond.code yX7_is cX7_is 2 (some .boolean), Cond.methodLink RX7 255 yX7_readAny, Cond.instanceMethod yX7_readAny, Cond.selects RX7 yX7_readAny yX7_readAny, Cond.code yX7_readAny cX7_readAny 5 none, Cond.fieldLink RX7 113 "ShapeJudgeModel" "itemAt" "[I", Cond.fieldLink RX7 110 "ShapeJudgeModel" "eachAt" "[I", Cond.methodLink RX7 246 yX7_comes, Cond.instanceMethod yX7_comes, Cond.selects RX7 yX7_comes yX7_comes, Cond.code yX7_comes cX7_comes 4 (some .int), Cond.methodLink RX7 249 yX7_readPart, Cond.instanceMethod yX7_readPart, Cond.selects RX7 yX7_readPart yX7_readPart]
def wsX7_shapes_r5 : List Cond := [Cond.code yX7_readPart cX7_readPart 3 none, Cond.constantLong RX7 160 (9), Cond.fieldLink RX7 86 "ShapeJudgeModel" "dPlace" "[I", Cond.methodLink RX7 252 yX7_readCount, Cond.instanceMethod yX7_readCount, Cond.selects RX7 yX7_readCount yX7_readCount, Cond.code yX7_readCount cX7_readCount 2 none, Cond.constantLong RX7 241 (5), Cond.methodLink RX7 237 yX7_number, Cond.instanceMethod yX7_number, Cond.selects RX7 yX7_number yX7_number, Cond.code yX7_number cX7_number 3 (some .int), Cond.methodLink RX7 271 yX7_settleWords, Cond.instanceMethod yX7_settleWords, Cond.selects RX7 yX7_settleWords yX7_settleWords, Cond.code yX7_settleWords cX7_settleWords 5 none, Cond.fieldLink RX7 116 "ShapeJudgeModel" "leads" "[Z", Cond.methodLink RX7 261 yX7_wordAt, Cond.instanceMethod yX7_wordAt, Cond.selects RX7 yX7_wordAt yX7_wordAt, Cond.code yX7_wordAt cX7_wordAt 3 (some .int), Cond.methodLink RX7 264 yX7_findLeads, Cond.instanceMethod yX7_findLeads, Cond.selects RX7 yX7_findLeads yX7_findLeads]
def wsX7_shapes_r6 : List Cond := [Cond.code yX7_findLeads cX7_findLeads 7 none]
def wsX7_shapes : List Cond := .code yX7_shapes cX7_shapes 3 (some .int) :: ((wsX7_shapes_r1 ++ (wsX7_shapes_r2 ++ (wsX7_shapes_r3 ++ (wsX7_shapes_r4 ++ (wsX7_shapes_r5 ++ wsX7_shapes_r6))))) ++ wsX70)
def wsX7_fault : List Cond := .code yX7_fault cX7_fault 1 (some .int) :: ([.fieldLink RX7 177 "ShapeJudgeModel" "fault" "I"] ++ wsX70)
def wsX7_takes : List Cond := .code yX7_takes cX7_takes 6 (some .boolean) :: ([.fieldLink RX7 20 "ShapeJudgeModel" "names" "[I", .fieldLink RX7 35 "ShapeJudgeModel" "pName" "[I", .fieldLink RX7 23 "ShapeJudgeModel" "tos" "[I", .fieldLink RX7 38 "ShapeJudgeModel" "pTest" "[I", .fieldLink RX7 122 "ShapeJudgeModel" "sure" "[Z", .fieldLink RX7 41 "ShapeJudgeModel" "pFirst" "[I", .fieldLink RX7 119 "ShapeJudgeModel" "fitting" "[Z", .fieldLink RX7 7 "ShapeJudgeModel" "hasValue" "[Z", .fieldLink RX7 13 "ShapeJudgeModel" "values" "[I", .fieldLink RX7 44 "ShapeJudgeModel" "pSecond" "[I", .methodLink RX7 144 yX7_in, .static yX7_in, .initialized RX7, .code yX7_in cX7_in 6 (some .boolean)] ++ wsX70)
def wsX7_joined : List Cond := .code yX7_joined cX7_joined 5 (some .int) :: ([])
def wsX7_counted : List Cond := .code yX7_counted cX7_counted 7 (some .int) :: ([.methodLink RX7 274 yX7_joined, .static yX7_joined, .initialized RX7, .code yX7_joined cX7_joined 5 (some .int)])
def wsX7_dealtTo_r1 : List Cond := [Cond.fieldLink RX7 47 "ShapeJudgeModel" "size" "[I", Cond.fieldLink RX7 128 "ShapeJudgeModel" "sets" "[I", Cond.fieldLink RX7 50 "ShapeJudgeModel" "kind" "[I", Cond.fieldLink RX7 53 "ShapeJudgeModel" "around" "[I", Cond.fieldLink RX7 62 "ShapeJudgeModel" "partOf" "[I", Cond.fieldLink RX7 17 "ShapeJudgeModel" "many" "[I", Cond.fieldLink RX7 125 "ShapeJudgeModel" "only" "[I", Cond.fieldLink RX7 56 "ShapeJudgeModel" "least" "[I", Cond.fieldLink RX7 59 "ShapeJudgeModel" "most" "[I", Cond.methodLink RX7 277 yX7_takes, Cond.instanceMethod yX7_takes, Cond.selects RX7 yX7_takes yX7_takes, Cond.initialized RX7, Cond.code yX7_takes cX7_takes 6 (some .boolean), Cond.fieldLink RX7 20 "ShapeJudgeModel" "names" "[I", Cond.fieldLink RX7 35 "ShapeJudgeModel" "pName" "[I", Cond.fieldLink RX7 23 "ShapeJudgeModel" "tos" "[I", Cond.fieldLink RX7 38 "ShapeJudgeModel" "pTest" "[I", Cond.fieldLink RX7 122 "ShapeJudgeModel" "sure" "[Z", Cond.fieldLink RX7 41 "ShapeJudgeModel" "pFirst" "[I", Cond.fieldLink RX7 119 "ShapeJudgeModel" "fitting" "[Z", Cond.fieldLink RX7 7 "ShapeJudgeModel" "hasValue" "[Z", Cond.fieldLink RX7 13 "ShapeJudgeModel" "values" "[I", Cond.fieldLink RX7 44 "ShapeJudgeModel" "pSecond" "[I"]
def wsX7_dealtTo_r2 : List Cond := [Cond.methodLink RX7 144 yX7_in, Cond.static yX7_in, Cond.code yX7_in cX7_in 6 (some .boolean), Cond.methodLink RX7 281 yX7_counted, Cond.instanceMethod yX7_counted, Cond.selects RX7 yX7_counted yX7_counted, Cond.code yX7_counted cX7_counted 7 (some .int), Cond.methodLink RX7 274 yX7_joined, Cond.static yX7_joined, Cond.code yX7_joined cX7_joined 5 (some .int)]
def wsX7_dealtTo : List Cond := .code yX7_dealtTo cX7_dealtTo 12 (some .int) :: ((wsX7_dealtTo_r1 ++ wsX7_dealtTo_r2) ++ wsX70)
def wsX7_isWanted : List Cond := .code yX7_isWanted cX7_isWanted 5 (some .boolean) :: ([.fieldLink RX7 32 "ShapeJudgeModel" "parts" "[I", .fieldLink RX7 35 "ShapeJudgeModel" "pName" "[I"] ++ wsX70)
def wsX7_wantedSet : List Cond := .code yX7_wantedSet cX7_wantedSet 5 (some .int) :: ([.fieldLink RX7 17 "ShapeJudgeModel" "many" "[I", .fieldLink RX7 20 "ShapeJudgeModel" "names" "[I", .methodLink RX7 284 yX7_isWanted, .instanceMethod yX7_isWanted, .selects RX7 yX7_isWanted yX7_isWanted, .initialized RX7, .code yX7_isWanted cX7_isWanted 5 (some .boolean), .fieldLink RX7 32 "ShapeJudgeModel" "parts" "[I", .fieldLink RX7 35 "ShapeJudgeModel" "pName" "[I"] ++ wsX70)
def wsX7_can_r1 : List Cond := [Cond.fieldLink RX7 29 "ShapeJudgeModel" "closed" "[Z", Cond.fieldLink RX7 17 "ShapeJudgeModel" "many" "[I", Cond.methodLink RX7 288 yX7_wantedSet, Cond.instanceMethod yX7_wantedSet, Cond.selects RX7 yX7_wantedSet yX7_wantedSet, Cond.initialized RX7, Cond.code yX7_wantedSet cX7_wantedSet 5 (some .int), Cond.fieldLink RX7 20 "ShapeJudgeModel" "names" "[I", Cond.methodLink RX7 284 yX7_isWanted, Cond.instanceMethod yX7_isWanted, Cond.selects RX7 yX7_isWanted yX7_isWanted, Cond.code yX7_isWanted cX7_isWanted 5 (some .boolean), Cond.fieldLink RX7 32 "ShapeJudgeModel" "parts" "[I", Cond.fieldLink RX7 35 "ShapeJudgeModel" "pName" "[I", Cond.methodLink RX7 291 yX7_dealtTo, Cond.instanceMethod yX7_dealtTo, Cond.selects RX7 yX7_dealtTo yX7_dealtTo, Cond.code yX7_dealtTo cX7_dealtTo 12 (some .int), Cond.fieldLink RX7 47 "ShapeJudgeModel" "size" "[I", Cond.fieldLink RX7 128 "ShapeJudgeModel" "sets" "[I", Cond.fieldLink RX7 50 "ShapeJudgeModel" "kind" "[I", Cond.fieldLink RX7 53 "ShapeJudgeModel" "around" "[I", Cond.fieldLink RX7 62 "ShapeJudgeModel" "partOf" "[I", Cond.fieldLink RX7 125 "ShapeJudgeModel" "only" "[I"]
def wsX7_can_r2 : List Cond := [Cond.fieldLink RX7 56 "ShapeJudgeModel" "least" "[I", Cond.fieldLink RX7 59 "ShapeJudgeModel" "most" "[I", Cond.methodLink RX7 277 yX7_takes, Cond.instanceMethod yX7_takes, Cond.selects RX7 yX7_takes yX7_takes, Cond.code yX7_takes cX7_takes 6 (some .boolean), Cond.fieldLink RX7 23 "ShapeJudgeModel" "tos" "[I", Cond.fieldLink RX7 38 "ShapeJudgeModel" "pTest" "[I", Cond.fieldLink RX7 122 "ShapeJudgeModel" "sure" "[Z", Cond.fieldLink RX7 41 "ShapeJudgeModel" "pFirst" "[I", Cond.fieldLink RX7 119 "ShapeJudgeModel" "fitting" "[Z", Cond.fieldLink RX7 7 "ShapeJudgeModel" "hasValue" "[Z", Cond.fieldLink RX7 13 "ShapeJudgeModel" "values" "[I", Cond.fieldLink RX7 44 "ShapeJudgeModel" "pSecond" "[I", Cond.methodLink RX7 144 yX7_in, Cond.static yX7_in, Cond.code yX7_in cX7_in 6 (some .boolean), Cond.methodLink RX7 281 yX7_counted, Cond.instanceMethod yX7_counted, Cond.selects RX7 yX7_counted yX7_counted, Cond.code yX7_counted cX7_counted 7 (some .int), Cond.methodLink RX7 274 yX7_joined, Cond.static yX7_joined, Cond.code yX7_joined cX7_joined 5 (some .int)]
def wsX7_can : List Cond := .code yX7_can cX7_can 5 (some .boolean) :: ((wsX7_can_r1 ++ wsX7_can_r2) ++ wsX70)
def wsX7_findRanks : List Cond := .code yX7_findRanks cX7_findRanks 6 none :: ([.fieldLink RX7 258 "ShapeJudgeModel" "shapes" "I", .fieldLink RX7 131 "ShapeJudgeModel" "ranks" "[I", .fieldLink RX7 32 "ShapeJudgeModel" "parts" "[I", .fieldLink RX7 38 "ShapeJudgeModel" "pTest" "[I", .fieldLink RX7 41 "ShapeJudgeModel" "pFirst" "[I"] ++ wsX70)
def wsX7_free : List Cond := .code yX7_free cX7_free 2 none :: ([.fieldLink RX7 125 "ShapeJudgeModel" "only" "[I"] ++ wsX70)
def wsX7_changes_r1 : List Cond := [Cond.fieldLink RX7 258 "ShapeJudgeModel" "shapes" "I", Cond.fieldLink RX7 140 "ShapeJudgeModel" "nodes" "I", Cond.fieldLink RX7 131 "ShapeJudgeModel" "ranks" "[I", Cond.fieldLink RX7 122 "ShapeJudgeModel" "sure" "[Z", Cond.fieldLink RX7 119 "ShapeJudgeModel" "fitting" "[Z", Cond.methodLink RX7 295 yX7_can, Cond.instanceMethod yX7_can, Cond.selects RX7 yX7_can yX7_can, Cond.initialized RX7, Cond.code yX7_can cX7_can 5 (some .boolean), Cond.fieldLink RX7 29 "ShapeJudgeModel" "closed" "[Z", Cond.fieldLink RX7 17 "ShapeJudgeModel" "many" "[I", Cond.methodLink RX7 288 yX7_wantedSet, Cond.instanceMethod yX7_wantedSet, Cond.selects RX7 yX7_wantedSet yX7_wantedSet, Cond.code yX7_wantedSet cX7_wantedSet 5 (some .int), Cond.fieldLink RX7 20 "ShapeJudgeModel" "names" "[I", Cond.methodLink RX7 284 yX7_isWanted, Cond.instanceMethod yX7_isWanted, Cond.selects RX7 yX7_isWanted yX7_isWanted, Cond.code yX7_isWanted cX7_isWanted 5 (some .boolean), Cond.fieldLink RX7 32 "ShapeJudgeModel" "parts" "[I", Cond.fieldLink RX7 35 "ShapeJudgeModel" "pName" "[I", Cond.methodLink RX7 291 yX7_dealtTo]
def wsX7_changes_r2 : List Cond := [Cond.instanceMethod yX7_dealtTo, Cond.selects RX7 yX7_dealtTo yX7_dealtTo, Cond.code yX7_dealtTo cX7_dealtTo 12 (some .int), Cond.fieldLink RX7 47 "ShapeJudgeModel" "size" "[I", Cond.fieldLink RX7 128 "ShapeJudgeModel" "sets" "[I", Cond.fieldLink RX7 50 "ShapeJudgeModel" "kind" "[I", Cond.fieldLink RX7 53 "ShapeJudgeModel" "around" "[I", Cond.fieldLink RX7 62 "ShapeJudgeModel" "partOf" "[I", Cond.fieldLink RX7 125 "ShapeJudgeModel" "only" "[I", Cond.fieldLink RX7 56 "ShapeJudgeModel" "least" "[I", Cond.fieldLink RX7 59 "ShapeJudgeModel" "most" "[I", Cond.methodLink RX7 277 yX7_takes, Cond.instanceMethod yX7_takes, Cond.selects RX7 yX7_takes yX7_takes, Cond.code yX7_takes cX7_takes 6 (some .boolean), Cond.fieldLink RX7 23 "ShapeJudgeModel" "tos" "[I", Cond.fieldLink RX7 38 "ShapeJudgeModel" "pTest" "[I", Cond.fieldLink RX7 41 "ShapeJudgeModel" "pFirst" "[I", Cond.fieldLink RX7 7 "ShapeJudgeModel" "hasValue" "[Z", Cond.fieldLink RX7 13 "ShapeJudgeModel" "values" "[I", Cond.fieldLink RX7 44 "ShapeJudgeModel" "pSecond" "[I", Cond.methodLink RX7 144 yX7_in, Cond.static yX7_in, Cond.code yX7_in cX7_in 6 (some .boolean)]
def wsX7_changes_r3 : List Cond := [Cond.methodLink RX7 281 yX7_counted, Cond.instanceMethod yX7_counted, Cond.selects RX7 yX7_counted yX7_counted, Cond.code yX7_counted cX7_counted 7 (some .int), Cond.methodLink RX7 274 yX7_joined, Cond.static yX7_joined, Cond.code yX7_joined cX7_joined 5 (some .int)]
def wsX7_changes : List Cond := .code yX7_changes cX7_changes 7 (some .boolean) :: ((wsX7_changes_r1 ++ (wsX7_changes_r2 ++ wsX7_changes_r3)) ++ wsX70)
def wsX7_read_r1 : List Cond := [Cond.fieldLink RX7 148 "ShapeJudgeModel" "isRead" "Z", Cond.fieldLink RX7 119 "ShapeJudgeModel" "fitting" "[Z", Cond.fieldLink RX7 122 "ShapeJudgeModel" "sure" "[Z", Cond.methodLink RX7 299 yX7_free, Cond.instanceMethod yX7_free, Cond.selects RX7 yX7_free yX7_free, Cond.initialized RX7, Cond.code yX7_free cX7_free 2 none, Cond.fieldLink RX7 125 "ShapeJudgeModel" "only" "[I", Cond.methodLink RX7 302 yX7_findRanks, Cond.instanceMethod yX7_findRanks, Cond.selects RX7 yX7_findRanks yX7_findRanks, Cond.code yX7_findRanks cX7_findRanks 6 none, Cond.fieldLink RX7 258 "ShapeJudgeModel" "shapes" "I", Cond.fieldLink RX7 131 "ShapeJudgeModel" "ranks" "[I", Cond.fieldLink RX7 32 "ShapeJudgeModel" "parts" "[I", Cond.fieldLink RX7 38 "ShapeJudgeModel" "pTest" "[I", Cond.fieldLink RX7 41 "ShapeJudgeModel" "pFirst" "[I", Cond.methodLink RX7 305 yX7_changes, Cond.instanceMethod yX7_changes, Cond.selects RX7 yX7_changes yX7_changes, Cond.code yX7_changes cX7_changes 7 (some .boolean), Cond.fieldLink RX7 140 "ShapeJudgeModel" "nodes" "I", Cond.methodLink RX7 295 yX7_can]
def wsX7_read_r2 : List Cond := [Cond.instanceMethod yX7_can, Cond.selects RX7 yX7_can yX7_can, Cond.code yX7_can cX7_can 5 (some .boolean), Cond.fieldLink RX7 29 "ShapeJudgeModel" "closed" "[Z", Cond.fieldLink RX7 17 "ShapeJudgeModel" "many" "[I", Cond.methodLink RX7 288 yX7_wantedSet, Cond.instanceMethod yX7_wantedSet, Cond.selects RX7 yX7_wantedSet yX7_wantedSet, Cond.code yX7_wantedSet cX7_wantedSet 5 (some .int), Cond.fieldLink RX7 20 "ShapeJudgeModel" "names" "[I", Cond.methodLink RX7 284 yX7_isWanted, Cond.instanceMethod yX7_isWanted, Cond.selects RX7 yX7_isWanted yX7_isWanted, Cond.code yX7_isWanted cX7_isWanted 5 (some .boolean), Cond.fieldLink RX7 35 "ShapeJudgeModel" "pName" "[I", Cond.methodLink RX7 291 yX7_dealtTo, Cond.instanceMethod yX7_dealtTo, Cond.selects RX7 yX7_dealtTo yX7_dealtTo, Cond.code yX7_dealtTo cX7_dealtTo 12 (some .int), Cond.fieldLink RX7 47 "ShapeJudgeModel" "size" "[I", Cond.fieldLink RX7 128 "ShapeJudgeModel" "sets" "[I", Cond.fieldLink RX7 50 "ShapeJudgeModel" "kind" "[I", Cond.fieldLink RX7 53 "ShapeJudgeModel" "around" "[I", Cond.fieldLink RX7 62 "ShapeJudgeModel" "partOf" "[I"]
def wsX7_read_r3 : List Cond := [Cond.fieldLink RX7 56 "ShapeJudgeModel" "least" "[I", Cond.fieldLink RX7 59 "ShapeJudgeModel" "most" "[I", Cond.methodLink RX7 277 yX7_takes, Cond.instanceMethod yX7_takes, Cond.selects RX7 yX7_takes yX7_takes, Cond.code yX7_takes cX7_takes 6 (some .boolean), Cond.fieldLink RX7 23 "ShapeJudgeModel" "tos" "[I", Cond.fieldLink RX7 7 "ShapeJudgeModel" "hasValue" "[Z", Cond.fieldLink RX7 13 "ShapeJudgeModel" "values" "[I", Cond.fieldLink RX7 44 "ShapeJudgeModel" "pSecond" "[I", Cond.methodLink RX7 144 yX7_in, Cond.static yX7_in, Cond.code yX7_in cX7_in 6 (some .boolean), Cond.methodLink RX7 281 yX7_counted, Cond.instanceMethod yX7_counted, Cond.selects RX7 yX7_counted yX7_counted, Cond.code yX7_counted cX7_counted 7 (some .int), Cond.methodLink RX7 274 yX7_joined, Cond.static yX7_joined, Cond.code yX7_joined cX7_joined 5 (some .int)]
def wsX7_read : List Cond := .code yX7_read cX7_read 3 none :: ((wsX7_read_r1 ++ (wsX7_read_r2 ++ wsX7_read_r3)) ++ wsX70)
def wsX7_isShape : List Cond := .code yX7_isShape cX7_isShape 2 (some .boolean) :: ([.fieldLink RX7 258 "ShapeJudgeModel" "shapes" "I", .methodLink RX7 144 yX7_in, .static yX7_in, .initialized RX7, .code yX7_in cX7_in 6 (some .boolean)] ++ wsX70)
def wsX7_areBoth : List Cond := .code yX7_areBoth cX7_areBoth 3 (some .boolean) :: ([.methodLink RX7 152 yX7_isNode, .instanceMethod yX7_isNode, .selects RX7 yX7_isNode yX7_isNode, .initialized RX7, .code yX7_isNode cX7_isNode 2 (some .boolean), .fieldLink RX7 140 "ShapeJudgeModel" "nodes" "I", .methodLink RX7 144 yX7_in, .static yX7_in, .code yX7_in cX7_in 6 (some .boolean), .methodLink RX7 309 yX7_isShape, .instanceMethod yX7_isShape, .selects RX7 yX7_isShape yX7_isShape, .code yX7_isShape cX7_isShape 2 (some .boolean), .fieldLink RX7 258 "ShapeJudgeModel" "shapes" "I"] ++ wsX70)
def wsX7_fits_r1 : List Cond := [Cond.fieldLink RX7 119 "ShapeJudgeModel" "fitting" "[Z", Cond.methodLink RX7 312 yX7_areBoth, Cond.instanceMethod yX7_areBoth, Cond.selects RX7 yX7_areBoth yX7_areBoth, Cond.initialized RX7, Cond.code yX7_areBoth cX7_areBoth 3 (some .boolean), Cond.methodLink RX7 152 yX7_isNode, Cond.instanceMethod yX7_isNode, Cond.selects RX7 yX7_isNode yX7_isNode, Cond.code yX7_isNode cX7_isNode 2 (some .boolean), Cond.fieldLink RX7 140 "ShapeJudgeModel" "nodes" "I", Cond.methodLink RX7 144 yX7_in, Cond.static yX7_in, Cond.code yX7_in cX7_in 6 (some .boolean), Cond.methodLink RX7 309 yX7_isShape, Cond.instanceMethod yX7_isShape, Cond.selects RX7 yX7_isShape yX7_isShape, Cond.code yX7_isShape cX7_isShape 2 (some .boolean), Cond.fieldLink RX7 258 "ShapeJudgeModel" "shapes" "I", Cond.methodLink RX7 315 yX7_read, Cond.instanceMethod yX7_read, Cond.selects RX7 yX7_read yX7_read, Cond.code yX7_read cX7_read 3 none, Cond.fieldLink RX7 148 "ShapeJudgeModel" "isRead" "Z"]
def wsX7_fits_r2 : List Cond := [Cond.fieldLink RX7 122 "ShapeJudgeModel" "sure" "[Z", Cond.methodLink RX7 299 yX7_free, Cond.instanceMethod yX7_free, Cond.selects RX7 yX7_free yX7_free, Cond.code yX7_free cX7_free 2 none, Cond.fieldLink RX7 125 "ShapeJudgeModel" "only" "[I", Cond.methodLink RX7 302 yX7_findRanks, Cond.instanceMethod yX7_findRanks, Cond.selects RX7 yX7_findRanks yX7_findRanks, Cond.code yX7_findRanks cX7_findRanks 6 none, Cond.fieldLink RX7 131 "ShapeJudgeModel" "ranks" "[I", Cond.fieldLink RX7 32 "ShapeJudgeModel" "parts" "[I", Cond.fieldLink RX7 38 "ShapeJudgeModel" "pTest" "[I", Cond.fieldLink RX7 41 "ShapeJudgeModel" "pFirst" "[I", Cond.methodLink RX7 305 yX7_changes, Cond.instanceMethod yX7_changes, Cond.selects RX7 yX7_changes yX7_changes, Cond.code yX7_changes cX7_changes 7 (some .boolean), Cond.methodLink RX7 295 yX7_can, Cond.instanceMethod yX7_can, Cond.selects RX7 yX7_can yX7_can, Cond.code yX7_can cX7_can 5 (some .boolean), Cond.fieldLink RX7 29 "ShapeJudgeModel" "closed" "[Z", Cond.fieldLink RX7 17 "ShapeJudgeModel" "many" "[I"]
def wsX7_fits_r3 : List Cond := [Cond.methodLink RX7 288 yX7_wantedSet, Cond.instanceMethod yX7_wantedSet, Cond.selects RX7 yX7_wantedSet yX7_wantedSet, Cond.code yX7_wantedSet cX7_wantedSet 5 (some .int), Cond.fieldLink RX7 20 "ShapeJudgeModel" "names" "[I", Cond.methodLink RX7 284 yX7_isWanted, Cond.instanceMethod yX7_isWanted, Cond.selects RX7 yX7_isWanted yX7_isWanted, Cond.code yX7_isWanted cX7_isWanted 5 (some .boolean), Cond.fieldLink RX7 35 "ShapeJudgeModel" "pName" "[I", Cond.methodLink RX7 291 yX7_dealtTo, Cond.instanceMethod yX7_dealtTo, Cond.selects RX7 yX7_dealtTo yX7_dealtTo, Cond.code yX7_dealtTo cX7_dealtTo 12 (some .int), Cond.fieldLink RX7 47 "ShapeJudgeModel" "size" "[I", Cond.fieldLink RX7 128 "ShapeJudgeModel" "sets" "[I", Cond.fieldLink RX7 50 "ShapeJudgeModel" "kind" "[I", Cond.fieldLink RX7 53 "ShapeJudgeModel" "around" "[I", Cond.fieldLink RX7 62 "ShapeJudgeModel" "partOf" "[I", Cond.fieldLink RX7 56 "ShapeJudgeModel" "least" "[I", Cond.fieldLink RX7 59 "ShapeJudgeModel" "most" "[I", Cond.methodLink RX7 277 yX7_takes, Cond.instanceMethod yX7_takes, Cond.selects RX7 yX7_takes yX7_takes]
def wsX7_fits_r4 : List Cond := [Cond.code yX7_takes cX7_takes 6 (some .boolean), Cond.fieldLink RX7 23 "ShapeJudgeModel" "tos" "[I", Cond.fieldLink RX7 7 "ShapeJudgeModel" "hasValue" "[Z", Cond.fieldLink RX7 13 "ShapeJudgeModel" "values" "[I", Cond.fieldLink RX7 44 "ShapeJudgeModel" "pSecond" "[I", Cond.methodLink RX7 281 yX7_counted, Cond.instanceMethod yX7_counted, Cond.selects RX7 yX7_counted yX7_counted, Cond.code yX7_counted cX7_counted 7 (some .int), Cond.methodLink RX7 274 yX7_joined, Cond.static yX7_joined, Cond.code yX7_joined cX7_joined 5 (some .int)]
def wsX7_fits : List Cond := .code yX7_fits cX7_fits 3 (some .int) :: ((wsX7_fits_r1 ++ (wsX7_fits_r2 ++ (wsX7_fits_r3 ++ wsX7_fits_r4))) ++ wsX70)
def wsX7_surely_r1 : List Cond := [Cond.fieldLink RX7 122 "ShapeJudgeModel" "sure" "[Z", Cond.methodLink RX7 312 yX7_areBoth, Cond.instanceMethod yX7_areBoth, Cond.selects RX7 yX7_areBoth yX7_areBoth, Cond.initialized RX7, Cond.code yX7_areBoth cX7_areBoth 3 (some .boolean), Cond.methodLink RX7 152 yX7_isNode, Cond.instanceMethod yX7_isNode, Cond.selects RX7 yX7_isNode yX7_isNode, Cond.code yX7_isNode cX7_isNode 2 (some .boolean), Cond.fieldLink RX7 140 "ShapeJudgeModel" "nodes" "I", Cond.methodLink RX7 144 yX7_in, Cond.static yX7_in, Cond.code yX7_in cX7_in 6 (some .boolean), Cond.methodLink RX7 309 yX7_isShape, Cond.instanceMethod yX7_isShape, Cond.selects RX7 yX7_isShape yX7_isShape, Cond.code yX7_isShape cX7_isShape 2 (some .boolean), Cond.fieldLink RX7 258 "ShapeJudgeModel" "shapes" "I", Cond.methodLink RX7 315 yX7_read, Cond.instanceMethod yX7_read, Cond.selects RX7 yX7_read yX7_read, Cond.code yX7_read cX7_read 3 none, Cond.fieldLink RX7 148 "ShapeJudgeModel" "isRead" "Z"]
def wsX7_surely_r2 : List Cond := [Cond.fieldLink RX7 119 "ShapeJudgeModel" "fitting" "[Z", Cond.methodLink RX7 299 yX7_free, Cond.instanceMethod yX7_free, Cond.selects RX7 yX7_free yX7_free, Cond.code yX7_free cX7_free 2 none, Cond.fieldLink RX7 125 "ShapeJudgeModel" "only" "[I", Cond.methodLink RX7 302 yX7_findRanks, Cond.instanceMethod yX7_findRanks, Cond.selects RX7 yX7_findRanks yX7_findRanks, Cond.code yX7_findRanks cX7_findRanks 6 none, Cond.fieldLink RX7 131 "ShapeJudgeModel" "ranks" "[I", Cond.fieldLink RX7 32 "ShapeJudgeModel" "parts" "[I", Cond.fieldLink RX7 38 "ShapeJudgeModel" "pTest" "[I", Cond.fieldLink RX7 41 "ShapeJudgeModel" "pFirst" "[I", Cond.methodLink RX7 305 yX7_changes, Cond.instanceMethod yX7_changes, Cond.selects RX7 yX7_changes yX7_changes, Cond.code yX7_changes cX7_changes 7 (some .boolean), Cond.methodLink RX7 295 yX7_can, Cond.instanceMethod yX7_can, Cond.selects RX7 yX7_can yX7_can, Cond.code yX7_can cX7_can 5 (some .boolean), Cond.fieldLink RX7 29 "ShapeJudgeModel" "closed" "[Z", Cond.fieldLink RX7 17 "ShapeJudgeModel" "many" "[I"]
def wsX7_surely_r3 : List Cond := [Cond.methodLink RX7 288 yX7_wantedSet, Cond.instanceMethod yX7_wantedSet, Cond.selects RX7 yX7_wantedSet yX7_wantedSet, Cond.code yX7_wantedSet cX7_wantedSet 5 (some .int), Cond.fieldLink RX7 20 "ShapeJudgeModel" "names" "[I", Cond.methodLink RX7 284 yX7_isWanted, Cond.instanceMethod yX7_isWanted, Cond.selects RX7 yX7_isWanted yX7_isWanted, Cond.code yX7_isWanted cX7_isWanted 5 (some .boolean), Cond.fieldLink RX7 35 "ShapeJudgeModel" "pName" "[I", Cond.methodLink RX7 291 yX7_dealtTo, Cond.instanceMethod yX7_dealtTo, Cond.selects RX7 yX7_dealtTo yX7_dealtTo, Cond.code yX7_dealtTo cX7_dealtTo 12 (some .int), Cond.fieldLink RX7 47 "ShapeJudgeModel" "size" "[I", Cond.fieldLink RX7 128 "ShapeJudgeModel" "sets" "[I", Cond.fieldLink RX7 50 "ShapeJudgeModel" "kind" "[I", Cond.fieldLink RX7 53 "ShapeJudgeModel" "around" "[I", Cond.fieldLink RX7 62 "ShapeJudgeModel" "partOf" "[I", Cond.fieldLink RX7 56 "ShapeJudgeModel" "least" "[I", Cond.fieldLink RX7 59 "ShapeJudgeModel" "most" "[I", Cond.methodLink RX7 277 yX7_takes, Cond.instanceMethod yX7_takes, Cond.selects RX7 yX7_takes yX7_takes]
def wsX7_surely_r4 : List Cond := [Cond.code yX7_takes cX7_takes 6 (some .boolean), Cond.fieldLink RX7 23 "ShapeJudgeModel" "tos" "[I", Cond.fieldLink RX7 7 "ShapeJudgeModel" "hasValue" "[Z", Cond.fieldLink RX7 13 "ShapeJudgeModel" "values" "[I", Cond.fieldLink RX7 44 "ShapeJudgeModel" "pSecond" "[I", Cond.methodLink RX7 281 yX7_counted, Cond.instanceMethod yX7_counted, Cond.selects RX7 yX7_counted yX7_counted, Cond.code yX7_counted cX7_counted 7 (some .int), Cond.methodLink RX7 274 yX7_joined, Cond.static yX7_joined, Cond.code yX7_joined cX7_joined 5 (some .int)]
def wsX7_surely : List Cond := .code yX7_surely cX7_surely 3 (some .int) :: ((wsX7_surely_r1 ++ (wsX7_surely_r2 ++ (wsX7_surely_r3 ++ wsX7_surely_r4))) ++ wsX70)
def wsX7_all_r1 : List Cond := [Cond.fieldLink RX7 140 "ShapeJudgeModel" "nodes" "I", Cond.fieldLink RX7 119 "ShapeJudgeModel" "fitting" "[Z", Cond.methodLink RX7 309 yX7_isShape, Cond.instanceMethod yX7_isShape, Cond.selects RX7 yX7_isShape yX7_isShape, Cond.initialized RX7, Cond.code yX7_isShape cX7_isShape 2 (some .boolean), Cond.fieldLink RX7 258 "ShapeJudgeModel" "shapes" "I", Cond.methodLink RX7 144 yX7_in, Cond.static yX7_in, Cond.code yX7_in cX7_in 6 (some .boolean), Cond.methodLink RX7 315 yX7_read, Cond.instanceMethod yX7_read, Cond.selects RX7 yX7_read yX7_read, Cond.code yX7_read cX7_read 3 none, Cond.fieldLink RX7 148 "ShapeJudgeModel" "isRead" "Z", Cond.fieldLink RX7 122 "ShapeJudgeModel" "sure" "[Z", Cond.methodLink RX7 299 yX7_free, Cond.instanceMethod yX7_free, Cond.selects RX7 yX7_free yX7_free, Cond.code yX7_free cX7_free 2 none, Cond.fieldLink RX7 125 "ShapeJudgeModel" "only" "[I", Cond.methodLink RX7 302 yX7_findRanks, Cond.instanceMethod yX7_findRanks]
def wsX7_all_r2 : List Cond := [Cond.selects RX7 yX7_findRanks yX7_findRanks, Cond.code yX7_findRanks cX7_findRanks 6 none, Cond.fieldLink RX7 131 "ShapeJudgeModel" "ranks" "[I", Cond.fieldLink RX7 32 "ShapeJudgeModel" "parts" "[I", Cond.fieldLink RX7 38 "ShapeJudgeModel" "pTest" "[I", Cond.fieldLink RX7 41 "ShapeJudgeModel" "pFirst" "[I", Cond.methodLink RX7 305 yX7_changes, Cond.instanceMethod yX7_changes, Cond.selects RX7 yX7_changes yX7_changes, Cond.code yX7_changes cX7_changes 7 (some .boolean), Cond.methodLink RX7 295 yX7_can, Cond.instanceMethod yX7_can, Cond.selects RX7 yX7_can yX7_can, Cond.code yX7_can cX7_can 5 (some .boolean), Cond.fieldLink RX7 29 "ShapeJudgeModel" "closed" "[Z", Cond.fieldLink RX7 17 "ShapeJudgeModel" "many" "[I", Cond.methodLink RX7 288 yX7_wantedSet, Cond.instanceMethod yX7_wantedSet, Cond.selects RX7 yX7_wantedSet yX7_wantedSet, Cond.code yX7_wantedSet cX7_wantedSet 5 (some .int), Cond.fieldLink RX7 20 "ShapeJudgeModel" "names" "[I", Cond.methodLink RX7 284 yX7_isWanted, Cond.instanceMethod yX7_isWanted, Cond.selects RX7 yX7_isWanted yX7_isWanted]
def wsX7_all_r3 : List Cond := [Cond.code yX7_isWanted cX7_isWanted 5 (some .boolean), Cond.fieldLink RX7 35 "ShapeJudgeModel" "pName" "[I", Cond.methodLink RX7 291 yX7_dealtTo, Cond.instanceMethod yX7_dealtTo, Cond.selects RX7 yX7_dealtTo yX7_dealtTo, Cond.code yX7_dealtTo cX7_dealtTo 12 (some .int), Cond.fieldLink RX7 47 "ShapeJudgeModel" "size" "[I", Cond.fieldLink RX7 128 "ShapeJudgeModel" "sets" "[I", Cond.fieldLink RX7 50 "ShapeJudgeModel" "kind" "[I", Cond.fieldLink RX7 53 "ShapeJudgeModel" "around" "[I", Cond.fieldLink RX7 62 "ShapeJudgeModel" "partOf" "[I", Cond.fieldLink RX7 56 "ShapeJudgeModel" "least" "[I", Cond.fieldLink RX7 59 "ShapeJudgeModel" "most" "[I", Cond.methodLink RX7 277 yX7_takes, Cond.instanceMethod yX7_takes, Cond.selects RX7 yX7_takes yX7_takes, Cond.code yX7_takes cX7_takes 6 (some .boolean), Cond.fieldLink RX7 23 "ShapeJudgeModel" "tos" "[I", Cond.fieldLink RX7 7 "ShapeJudgeModel" "hasValue" "[Z", Cond.fieldLink RX7 13 "ShapeJudgeModel" "values" "[I", Cond.fieldLink RX7 44 "ShapeJudgeModel" "pSecond" "[I", Cond.methodLink RX7 281 yX7_counted, Cond.instanceMethod yX7_counted, Cond.selects RX7 yX7_counted yX7_counted]
def wsX7_all_r4 : List Cond := [Cond.code yX7_counted cX7_counted 7 (some .int), Cond.methodLink RX7 274 yX7_joined, Cond.static yX7_joined, Cond.code yX7_joined cX7_joined 5 (some .int)]
def wsX7_all : List Cond := .code yX7_all cX7_all 4 (some .int) :: ((wsX7_all_r1 ++ (wsX7_all_r2 ++ (wsX7_all_r3 ++ wsX7_all_r4))) ++ wsX70)
def wsX7_wanted_r1 : List Cond := [Cond.fieldLink RX7 17 "ShapeJudgeModel" "many" "[I", Cond.fieldLink RX7 20 "ShapeJudgeModel" "names" "[I", Cond.methodLink RX7 312 yX7_areBoth, Cond.instanceMethod yX7_areBoth, Cond.selects RX7 yX7_areBoth yX7_areBoth, Cond.initialized RX7, Cond.code yX7_areBoth cX7_areBoth 3 (some .boolean), Cond.methodLink RX7 152 yX7_isNode, Cond.instanceMethod yX7_isNode, Cond.selects RX7 yX7_isNode yX7_isNode, Cond.code yX7_isNode cX7_isNode 2 (some .boolean), Cond.fieldLink RX7 140 "ShapeJudgeModel" "nodes" "I", Cond.methodLink RX7 144 yX7_in, Cond.static yX7_in, Cond.code yX7_in cX7_in 6 (some .boolean), Cond.methodLink RX7 309 yX7_isShape, Cond.instanceMethod yX7_isShape, Cond.selects RX7 yX7_isShape yX7_isShape, Cond.code yX7_isShape cX7_isShape 2 (some .boolean), Cond.fieldLink RX7 258 "ShapeJudgeModel" "shapes" "I", Cond.methodLink RX7 284 yX7_isWanted, Cond.instanceMethod yX7_isWanted, Cond.selects RX7 yX7_isWanted yX7_isWanted, Cond.code yX7_isWanted cX7_isWanted 5 (some .boolean)]
def wsX7_wanted_r2 : List Cond := [Cond.fieldLink RX7 32 "ShapeJudgeModel" "parts" "[I", Cond.fieldLink RX7 35 "ShapeJudgeModel" "pName" "[I"]
def wsX7_wanted : List Cond := .code yX7_wanted cX7_wanted 5 (some .int) :: ((wsX7_wanted_r1 ++ wsX7_wanted_r2) ++ wsX70)
def wsX7_dealt_r1 : List Cond := [Cond.fieldLink RX7 17 "ShapeJudgeModel" "many" "[I", Cond.fieldLink RX7 119 "ShapeJudgeModel" "fitting" "[Z", Cond.fieldLink RX7 20 "ShapeJudgeModel" "names" "[I", Cond.fieldLink RX7 125 "ShapeJudgeModel" "only" "[I", Cond.methodLink RX7 312 yX7_areBoth, Cond.instanceMethod yX7_areBoth, Cond.selects RX7 yX7_areBoth yX7_areBoth, Cond.initialized RX7, Cond.code yX7_areBoth cX7_areBoth 3 (some .boolean), Cond.methodLink RX7 152 yX7_isNode, Cond.instanceMethod yX7_isNode, Cond.selects RX7 yX7_isNode yX7_isNode, Cond.code yX7_isNode cX7_isNode 2 (some .boolean), Cond.fieldLink RX7 140 "ShapeJudgeModel" "nodes" "I", Cond.methodLink RX7 144 yX7_in, Cond.static yX7_in, Cond.code yX7_in cX7_in 6 (some .boolean), Cond.methodLink RX7 309 yX7_isShape, Cond.instanceMethod yX7_isShape, Cond.selects RX7 yX7_isShape yX7_isShape, Cond.code yX7_isShape cX7_isShape 2 (some .boolean), Cond.fieldLink RX7 258 "ShapeJudgeModel" "shapes" "I", Cond.methodLink RX7 315 yX7_read, Cond.instanceMethod yX7_read]
def wsX7_dealt_r2 : List Cond := [Cond.selects RX7 yX7_read yX7_read, Cond.code yX7_read cX7_read 3 none, Cond.fieldLink RX7 148 "ShapeJudgeModel" "isRead" "Z", Cond.fieldLink RX7 122 "ShapeJudgeModel" "sure" "[Z", Cond.methodLink RX7 299 yX7_free, Cond.instanceMethod yX7_free, Cond.selects RX7 yX7_free yX7_free, Cond.code yX7_free cX7_free 2 none, Cond.methodLink RX7 302 yX7_findRanks, Cond.instanceMethod yX7_findRanks, Cond.selects RX7 yX7_findRanks yX7_findRanks, Cond.code yX7_findRanks cX7_findRanks 6 none, Cond.fieldLink RX7 131 "ShapeJudgeModel" "ranks" "[I", Cond.fieldLink RX7 32 "ShapeJudgeModel" "parts" "[I", Cond.fieldLink RX7 38 "ShapeJudgeModel" "pTest" "[I", Cond.fieldLink RX7 41 "ShapeJudgeModel" "pFirst" "[I", Cond.methodLink RX7 305 yX7_changes, Cond.instanceMethod yX7_changes, Cond.selects RX7 yX7_changes yX7_changes, Cond.code yX7_changes cX7_changes 7 (some .boolean), Cond.methodLink RX7 295 yX7_can, Cond.instanceMethod yX7_can, Cond.selects RX7 yX7_can yX7_can, Cond.code yX7_can cX7_can 5 (some .boolean)]
def wsX7_dealt_r3 : List Cond := [Cond.fieldLink RX7 29 "ShapeJudgeModel" "closed" "[Z", Cond.methodLink RX7 288 yX7_wantedSet, Cond.instanceMethod yX7_wantedSet, Cond.selects RX7 yX7_wantedSet yX7_wantedSet, Cond.code yX7_wantedSet cX7_wantedSet 5 (some .int), Cond.methodLink RX7 284 yX7_isWanted, Cond.instanceMethod yX7_isWanted, Cond.selects RX7 yX7_isWanted yX7_isWanted, Cond.code yX7_isWanted cX7_isWanted 5 (some .boolean), Cond.fieldLink RX7 35 "ShapeJudgeModel" "pName" "[I", Cond.methodLink RX7 291 yX7_dealtTo, Cond.instanceMethod yX7_dealtTo, Cond.selects RX7 yX7_dealtTo yX7_dealtTo, Cond.code yX7_dealtTo cX7_dealtTo 12 (some .int), Cond.fieldLink RX7 47 "ShapeJudgeModel" "size" "[I", Cond.fieldLink RX7 128 "ShapeJudgeModel" "sets" "[I", Cond.fieldLink RX7 50 "ShapeJudgeModel" "kind" "[I", Cond.fieldLink RX7 53 "ShapeJudgeModel" "around" "[I", Cond.fieldLink RX7 62 "ShapeJudgeModel" "partOf" "[I", Cond.fieldLink RX7 56 "ShapeJudgeModel" "least" "[I", Cond.fieldLink RX7 59 "ShapeJudgeModel" "most" "[I", Cond.methodLink RX7 277 yX7_takes, Cond.instanceMethod yX7_takes, Cond.selects RX7 yX7_takes yX7_takes]
def wsX7_dealt_r4 : List Cond := [Cond.code yX7_takes cX7_takes 6 (some .boolean), Cond.fieldLink RX7 23 "ShapeJudgeModel" "tos" "[I", Cond.fieldLink RX7 7 "ShapeJudgeModel" "hasValue" "[Z", Cond.fieldLink RX7 13 "ShapeJudgeModel" "values" "[I", Cond.fieldLink RX7 44 "ShapeJudgeModel" "pSecond" "[I", Cond.methodLink RX7 281 yX7_counted, Cond.instanceMethod yX7_counted, Cond.selects RX7 yX7_counted yX7_counted, Cond.code yX7_counted cX7_counted 7 (some .int), Cond.methodLink RX7 274 yX7_joined, Cond.static yX7_joined, Cond.code yX7_joined cX7_joined 5 (some .int)]
def wsX7_dealt : List Cond := .code yX7_dealt cX7_dealt 5 (some .int) :: ((wsX7_dealt_r1 ++ (wsX7_dealt_r2 ++ (wsX7_dealt_r3 ++ wsX7_dealt_r4))) ++ wsX70)
def wsX7_bits : List Cond := .code yX7_bits cX7_bits 3 (some .int) :: ([])
def wsX7_without_r1 : List Cond := [Cond.fieldLink RX7 17 "ShapeJudgeModel" "many" "[I", Cond.fieldLink RX7 134 "ShapeJudgeModel" "keptNames" "[I", Cond.fieldLink RX7 20 "ShapeJudgeModel" "names" "[I", Cond.fieldLink RX7 137 "ShapeJudgeModel" "keptTos" "[I", Cond.fieldLink RX7 23 "ShapeJudgeModel" "tos" "[I", Cond.fieldLink RX7 318 "ShapeJudgeModel" "withoutMany" "I", Cond.fieldLink RX7 321 "ShapeJudgeModel" "withoutSet" "I", Cond.fieldLink RX7 148 "ShapeJudgeModel" "isRead" "Z", Cond.fieldLink RX7 119 "ShapeJudgeModel" "fitting" "[Z", Cond.methodLink RX7 324 yX7_bits, Cond.static yX7_bits, Cond.initialized RX7, Cond.code yX7_bits cX7_bits 3 (some .int), Cond.methodLink RX7 315 yX7_read, Cond.instanceMethod yX7_read, Cond.selects RX7 yX7_read yX7_read, Cond.code yX7_read cX7_read 3 none, Cond.fieldLink RX7 122 "ShapeJudgeModel" "sure" "[Z", Cond.methodLink RX7 299 yX7_free, Cond.instanceMethod yX7_free, Cond.selects RX7 yX7_free yX7_free, Cond.code yX7_free cX7_free 2 none, Cond.fieldLink RX7 125 "ShapeJudgeModel" "only" "[I", Cond.methodLink RX7 302 yX7_findRanks]
def wsX7_without_r2 : List Cond := [Cond.instanceMethod yX7_findRanks, Cond.selects RX7 yX7_findRanks yX7_findRanks, Cond.code yX7_findRanks cX7_findRanks 6 none, Cond.fieldLink RX7 258 "ShapeJudgeModel" "shapes" "I", Cond.fieldLink RX7 131 "ShapeJudgeModel" "ranks" "[I", Cond.fieldLink RX7 32 "ShapeJudgeModel" "parts" "[I", Cond.fieldLink RX7 38 "ShapeJudgeModel" "pTest" "[I", Cond.fieldLink RX7 41 "ShapeJudgeModel" "pFirst" "[I", Cond.methodLink RX7 305 yX7_changes, Cond.instanceMethod yX7_changes, Cond.selects RX7 yX7_changes yX7_changes, Cond.code yX7_changes cX7_changes 7 (some .boolean), Cond.fieldLink RX7 140 "ShapeJudgeModel" "nodes" "I", Cond.methodLink RX7 295 yX7_can, Cond.instanceMethod yX7_can, Cond.selects RX7 yX7_can yX7_can, Cond.code yX7_can cX7_can 5 (some .boolean), Cond.fieldLink RX7 29 "ShapeJudgeModel" "closed" "[Z", Cond.methodLink RX7 288 yX7_wantedSet, Cond.instanceMethod yX7_wantedSet, Cond.selects RX7 yX7_wantedSet yX7_wantedSet, Cond.code yX7_wantedSet cX7_wantedSet 5 (some .int), Cond.methodLink RX7 284 yX7_isWanted, Cond.instanceMethod yX7_isWanted]
def wsX7_without_r3 : List Cond := [Cond.selects RX7 yX7_isWanted yX7_isWanted, Cond.code yX7_isWanted cX7_isWanted 5 (some .boolean), Cond.fieldLink RX7 35 "ShapeJudgeModel" "pName" "[I", Cond.methodLink RX7 291 yX7_dealtTo, Cond.instanceMethod yX7_dealtTo, Cond.selects RX7 yX7_dealtTo yX7_dealtTo, Cond.code yX7_dealtTo cX7_dealtTo 12 (some .int), Cond.fieldLink RX7 47 "ShapeJudgeModel" "size" "[I", Cond.fieldLink RX7 128 "ShapeJudgeModel" "sets" "[I", Cond.fieldLink RX7 50 "ShapeJudgeModel" "kind" "[I", Cond.fieldLink RX7 53 "ShapeJudgeModel" "around" "[I", Cond.fieldLink RX7 62 "ShapeJudgeModel" "partOf" "[I", Cond.fieldLink RX7 56 "ShapeJudgeModel" "least" "[I", Cond.fieldLink RX7 59 "ShapeJudgeModel" "most" "[I", Cond.methodLink RX7 277 yX7_takes, Cond.instanceMethod yX7_takes, Cond.selects RX7 yX7_takes yX7_takes, Cond.code yX7_takes cX7_takes 6 (some .boolean), Cond.fieldLink RX7 7 "ShapeJudgeModel" "hasValue" "[Z", Cond.fieldLink RX7 13 "ShapeJudgeModel" "values" "[I", Cond.fieldLink RX7 44 "ShapeJudgeModel" "pSecond" "[I", Cond.methodLink RX7 144 yX7_in, Cond.static yX7_in, Cond.code yX7_in cX7_in 6 (some .boolean)]
def wsX7_without_r4 : List Cond := [Cond.methodLink RX7 281 yX7_counted, Cond.instanceMethod yX7_counted, Cond.selects RX7 yX7_counted yX7_counted, Cond.code yX7_counted cX7_counted 7 (some .int), Cond.methodLink RX7 274 yX7_joined, Cond.static yX7_joined, Cond.code yX7_joined cX7_joined 5 (some .int)]
def wsX7_without : List Cond := .code yX7_without cX7_without 7 none :: ((wsX7_without_r1 ++ (wsX7_without_r2 ++ (wsX7_without_r3 ++ wsX7_without_r4))) ++ wsX70)
def wsX7_tooMany_r1 : List Cond := [Cond.fieldLink RX7 318 "ShapeJudgeModel" "withoutMany" "I", Cond.methodLink RX7 312 yX7_areBoth, Cond.instanceMethod yX7_areBoth, Cond.selects RX7 yX7_areBoth yX7_areBoth, Cond.initialized RX7, Cond.code yX7_areBoth cX7_areBoth 3 (some .boolean), Cond.methodLink RX7 152 yX7_isNode, Cond.instanceMethod yX7_isNode, Cond.selects RX7 yX7_isNode yX7_isNode, Cond.code yX7_isNode cX7_isNode 2 (some .boolean), Cond.fieldLink RX7 140 "ShapeJudgeModel" "nodes" "I", Cond.methodLink RX7 144 yX7_in, Cond.static yX7_in, Cond.code yX7_in cX7_in 6 (some .boolean), Cond.methodLink RX7 309 yX7_isShape, Cond.instanceMethod yX7_isShape, Cond.selects RX7 yX7_isShape yX7_isShape, Cond.code yX7_isShape cX7_isShape 2 (some .boolean), Cond.fieldLink RX7 258 "ShapeJudgeModel" "shapes" "I", Cond.methodLink RX7 327 yX7_without, Cond.instanceMethod yX7_without, Cond.selects RX7 yX7_without yX7_without, Cond.code yX7_without cX7_without 7 none, Cond.fieldLink RX7 17 "ShapeJudgeModel" "many" "[I"]
def wsX7_tooMany_r2 : List Cond := [Cond.fieldLink RX7 134 "ShapeJudgeModel" "keptNames" "[I", Cond.fieldLink RX7 20 "ShapeJudgeModel" "names" "[I", Cond.fieldLink RX7 137 "ShapeJudgeModel" "keptTos" "[I", Cond.fieldLink RX7 23 "ShapeJudgeModel" "tos" "[I", Cond.fieldLink RX7 321 "ShapeJudgeModel" "withoutSet" "I", Cond.fieldLink RX7 148 "ShapeJudgeModel" "isRead" "Z", Cond.fieldLink RX7 119 "ShapeJudgeModel" "fitting" "[Z", Cond.methodLink RX7 324 yX7_bits, Cond.static yX7_bits, Cond.code yX7_bits cX7_bits 3 (some .int), Cond.methodLink RX7 315 yX7_read, Cond.instanceMethod yX7_read, Cond.selects RX7 yX7_read yX7_read, Cond.code yX7_read cX7_read 3 none, Cond.fieldLink RX7 122 "ShapeJudgeModel" "sure" "[Z", Cond.methodLink RX7 299 yX7_free, Cond.instanceMethod yX7_free, Cond.selects RX7 yX7_free yX7_free, Cond.code yX7_free cX7_free 2 none, Cond.fieldLink RX7 125 "ShapeJudgeModel" "only" "[I", Cond.methodLink RX7 302 yX7_findRanks, Cond.instanceMethod yX7_findRanks, Cond.selects RX7 yX7_findRanks yX7_findRanks, Cond.code yX7_findRanks cX7_findRanks 6 none]
def wsX7_tooMany_r3 : List Cond := [Cond.fieldLink RX7 131 "ShapeJudgeModel" "ranks" "[I", Cond.fieldLink RX7 32 "ShapeJudgeModel" "parts" "[I", Cond.fieldLink RX7 38 "ShapeJudgeModel" "pTest" "[I", Cond.fieldLink RX7 41 "ShapeJudgeModel" "pFirst" "[I", Cond.methodLink RX7 305 yX7_changes, Cond.instanceMethod yX7_changes, Cond.selects RX7 yX7_changes yX7_changes, Cond.code yX7_changes cX7_changes 7 (some .boolean), Cond.methodLink RX7 295 yX7_can, Cond.instanceMethod yX7_can, Cond.selects RX7 yX7_can yX7_can, Cond.code yX7_can cX7_can 5 (some .boolean), Cond.fieldLink RX7 29 "ShapeJudgeModel" "closed" "[Z", Cond.methodLink RX7 288 yX7_wantedSet, Cond.instanceMethod yX7_wantedSet, Cond.selects RX7 yX7_wantedSet yX7_wantedSet, Cond.code yX7_wantedSet cX7_wantedSet 5 (some .int), Cond.methodLink RX7 284 yX7_isWanted, Cond.instanceMethod yX7_isWanted, Cond.selects RX7 yX7_isWanted yX7_isWanted, Cond.code yX7_isWanted cX7_isWanted 5 (some .boolean), Cond.fieldLink RX7 35 "ShapeJudgeModel" "pName" "[I", Cond.methodLink RX7 291 yX7_dealtTo, Cond.instanceMethod yX7_dealtTo]
def wsX7_tooMany_r4 : List Cond := [Cond.selects RX7 yX7_dealtTo yX7_dealtTo, Cond.code yX7_dealtTo cX7_dealtTo 12 (some .int), Cond.fieldLink RX7 47 "ShapeJudgeModel" "size" "[I", Cond.fieldLink RX7 128 "ShapeJudgeModel" "sets" "[I", Cond.fieldLink RX7 50 "ShapeJudgeModel" "kind" "[I", Cond.fieldLink RX7 53 "ShapeJudgeModel" "around" "[I", Cond.fieldLink RX7 62 "ShapeJudgeModel" "partOf" "[I", Cond.fieldLink RX7 56 "ShapeJudgeModel" "least" "[I", Cond.fieldLink RX7 59 "ShapeJudgeModel" "most" "[I", Cond.methodLink RX7 277 yX7_takes, Cond.instanceMethod yX7_takes, Cond.selects RX7 yX7_takes yX7_takes, Cond.code yX7_takes cX7_takes 6 (some .boolean), Cond.fieldLink RX7 7 "ShapeJudgeModel" "hasValue" "[Z", Cond.fieldLink RX7 13 "ShapeJudgeModel" "values" "[I", Cond.fieldLink RX7 44 "ShapeJudgeModel" "pSecond" "[I", Cond.methodLink RX7 281 yX7_counted, Cond.instanceMethod yX7_counted, Cond.selects RX7 yX7_counted yX7_counted, Cond.code yX7_counted cX7_counted 7 (some .int), Cond.methodLink RX7 274 yX7_joined, Cond.static yX7_joined, Cond.code yX7_joined cX7_joined 5 (some .int)]
def wsX7_tooMany : List Cond := .code yX7_tooMany cX7_tooMany 3 (some .int) :: ((wsX7_tooMany_r1 ++ (wsX7_tooMany_r2 ++ (wsX7_tooMany_r3 ++ wsX7_tooMany_r4))) ++ wsX70)
def wsX7_which_r1 : List Cond := [Cond.fieldLink RX7 321 "ShapeJudgeModel" "withoutSet" "I", Cond.methodLink RX7 312 yX7_areBoth, Cond.instanceMethod yX7_areBoth, Cond.selects RX7 yX7_areBoth yX7_areBoth, Cond.initialized RX7, Cond.code yX7_areBoth cX7_areBoth 3 (some .boolean), Cond.methodLink RX7 152 yX7_isNode, Cond.instanceMethod yX7_isNode, Cond.selects RX7 yX7_isNode yX7_isNode, Cond.code yX7_isNode cX7_isNode 2 (some .boolean), Cond.fieldLink RX7 140 "ShapeJudgeModel" "nodes" "I", Cond.methodLink RX7 144 yX7_in, Cond.static yX7_in, Cond.code yX7_in cX7_in 6 (some .boolean), Cond.methodLink RX7 309 yX7_isShape, Cond.instanceMethod yX7_isShape, Cond.selects RX7 yX7_isShape yX7_isShape, Cond.code yX7_isShape cX7_isShape 2 (some .boolean), Cond.fieldLink RX7 258 "ShapeJudgeModel" "shapes" "I", Cond.methodLink RX7 327 yX7_without, Cond.instanceMethod yX7_without, Cond.selects RX7 yX7_without yX7_without, Cond.code yX7_without cX7_without 7 none, Cond.fieldLink RX7 17 "ShapeJudgeModel" "many" "[I"]
def wsX7_which_r2 : List Cond := [Cond.fieldLink RX7 134 "ShapeJudgeModel" "keptNames" "[I", Cond.fieldLink RX7 20 "ShapeJudgeModel" "names" "[I", Cond.fieldLink RX7 137 "ShapeJudgeModel" "keptTos" "[I", Cond.fieldLink RX7 23 "ShapeJudgeModel" "tos" "[I", Cond.fieldLink RX7 318 "ShapeJudgeModel" "withoutMany" "I", Cond.fieldLink RX7 148 "ShapeJudgeModel" "isRead" "Z", Cond.fieldLink RX7 119 "ShapeJudgeModel" "fitting" "[Z", Cond.methodLink RX7 324 yX7_bits, Cond.static yX7_bits, Cond.code yX7_bits cX7_bits 3 (some .int), Cond.methodLink RX7 315 yX7_read, Cond.instanceMethod yX7_read, Cond.selects RX7 yX7_read yX7_read, Cond.code yX7_read cX7_read 3 none, Cond.fieldLink RX7 122 "ShapeJudgeModel" "sure" "[Z", Cond.methodLink RX7 299 yX7_free, Cond.instanceMethod yX7_free, Cond.selects RX7 yX7_free yX7_free, Cond.code yX7_free cX7_free 2 none, Cond.fieldLink RX7 125 "ShapeJudgeModel" "only" "[I", Cond.methodLink RX7 302 yX7_findRanks, Cond.instanceMethod yX7_findRanks, Cond.selects RX7 yX7_findRanks yX7_findRanks, Cond.code yX7_findRanks cX7_findRanks 6 none]
def wsX7_which_r3 : List Cond := [Cond.fieldLink RX7 131 "ShapeJudgeModel" "ranks" "[I", Cond.fieldLink RX7 32 "ShapeJudgeModel" "parts" "[I", Cond.fieldLink RX7 38 "ShapeJudgeModel" "pTest" "[I", Cond.fieldLink RX7 41 "ShapeJudgeModel" "pFirst" "[I", Cond.methodLink RX7 305 yX7_changes, Cond.instanceMethod yX7_changes, Cond.selects RX7 yX7_changes yX7_changes, Cond.code yX7_changes cX7_changes 7 (some .boolean), Cond.methodLink RX7 295 yX7_can, Cond.instanceMethod yX7_can, Cond.selects RX7 yX7_can yX7_can, Cond.code yX7_can cX7_can 5 (some .boolean), Cond.fieldLink RX7 29 "ShapeJudgeModel" "closed" "[Z", Cond.methodLink RX7 288 yX7_wantedSet, Cond.instanceMethod yX7_wantedSet, Cond.selects RX7 yX7_wantedSet yX7_wantedSet, Cond.code yX7_wantedSet cX7_wantedSet 5 (some .int), Cond.methodLink RX7 284 yX7_isWanted, Cond.instanceMethod yX7_isWanted, Cond.selects RX7 yX7_isWanted yX7_isWanted, Cond.code yX7_isWanted cX7_isWanted 5 (some .boolean), Cond.fieldLink RX7 35 "ShapeJudgeModel" "pName" "[I", Cond.methodLink RX7 291 yX7_dealtTo, Cond.instanceMethod yX7_dealtTo]
def wsX7_which_r4 : List Cond := [Cond.selects RX7 yX7_dealtTo yX7_dealtTo, Cond.code yX7_dealtTo cX7_dealtTo 12 (some .int), Cond.fieldLink RX7 47 "ShapeJudgeModel" "size" "[I", Cond.fieldLink RX7 128 "ShapeJudgeModel" "sets" "[I", Cond.fieldLink RX7 50 "ShapeJudgeModel" "kind" "[I", Cond.fieldLink RX7 53 "ShapeJudgeModel" "around" "[I", Cond.fieldLink RX7 62 "ShapeJudgeModel" "partOf" "[I", Cond.fieldLink RX7 56 "ShapeJudgeModel" "least" "[I", Cond.fieldLink RX7 59 "ShapeJudgeModel" "most" "[I", Cond.methodLink RX7 277 yX7_takes, Cond.instanceMethod yX7_takes, Cond.selects RX7 yX7_takes yX7_takes, Cond.code yX7_takes cX7_takes 6 (some .boolean), Cond.fieldLink RX7 7 "ShapeJudgeModel" "hasValue" "[Z", Cond.fieldLink RX7 13 "ShapeJudgeModel" "values" "[I", Cond.fieldLink RX7 44 "ShapeJudgeModel" "pSecond" "[I", Cond.methodLink RX7 281 yX7_counted, Cond.instanceMethod yX7_counted, Cond.selects RX7 yX7_counted yX7_counted, Cond.code yX7_counted cX7_counted 7 (some .int), Cond.methodLink RX7 274 yX7_joined, Cond.static yX7_joined, Cond.code yX7_joined cX7_joined 5 (some .int)]
def wsX7_which : List Cond := .code yX7_which cX7_which 3 (some .int) :: ((wsX7_which_r1 ++ (wsX7_which_r2 ++ (wsX7_which_r3 ++ wsX7_which_r4))) ++ wsX70)
def wsX7_depends : List Cond := .code yX7_depends cX7_depends 3 (some .int) :: ([.fieldLink RX7 116 "ShapeJudgeModel" "leads" "[Z", .methodLink RX7 309 yX7_isShape, .instanceMethod yX7_isShape, .selects RX7 yX7_isShape yX7_isShape, .initialized RX7, .code yX7_isShape cX7_isShape 2 (some .boolean), .fieldLink RX7 258 "ShapeJudgeModel" "shapes" "I", .methodLink RX7 144 yX7_in, .static yX7_in, .code yX7_in cX7_in 6 (some .boolean), .methodLink RX7 264 yX7_findLeads, .instanceMethod yX7_findLeads, .selects RX7 yX7_findLeads yX7_findLeads, .code yX7_findLeads cX7_findLeads 7 none, .fieldLink RX7 234 "ShapeJudgeModel" "dShapes" "I", .fieldLink RX7 71 "ShapeJudgeModel" "dParts" "[I", .fieldLink RX7 32 "ShapeJudgeModel" "parts" "[I", .fieldLink RX7 77 "ShapeJudgeModel" "dTest" "[I", .fieldLink RX7 38 "ShapeJudgeModel" "pTest" "[I", .fieldLink RX7 80 "ShapeJudgeModel" "dFirst" "[I", .fieldLink RX7 41 "ShapeJudgeModel" "pFirst" "[I"] ++ wsX70)
def wsX7_part : List Cond := .code yX7_part cX7_part 5 (some .int) :: ([.fieldLink RX7 32 "ShapeJudgeModel" "parts" "[I", .constantLong RX7 330 (3), .fieldLink RX7 35 "ShapeJudgeModel" "pName" "[I", .fieldLink RX7 38 "ShapeJudgeModel" "pTest" "[I", .fieldLink RX7 41 "ShapeJudgeModel" "pFirst" "[I", .fieldLink RX7 44 "ShapeJudgeModel" "pSecond" "[I", .methodLink RX7 309 yX7_isShape, .instanceMethod yX7_isShape, .selects RX7 yX7_isShape yX7_isShape, .initialized RX7, .code yX7_isShape cX7_isShape 2 (some .boolean), .fieldLink RX7 258 "ShapeJudgeModel" "shapes" "I", .methodLink RX7 144 yX7_in, .static yX7_in, .code yX7_in cX7_in 6 (some .boolean)] ++ wsX70)
def wsX7_told : List Cond := .code yX7_told cX7_told 3 (some .int) :: ([.constantLong RX7 332 (2), .fieldLink RX7 26 "ShapeJudgeModel" "words" "[I", .fieldLink RX7 32 "ShapeJudgeModel" "parts" "[I", .fieldLink RX7 29 "ShapeJudgeModel" "closed" "[Z", .methodLink RX7 309 yX7_isShape, .instanceMethod yX7_isShape, .selects RX7 yX7_isShape yX7_isShape, .initialized RX7, .code yX7_isShape cX7_isShape 2 (some .boolean), .fieldLink RX7 258 "ShapeJudgeModel" "shapes" "I", .methodLink RX7 144 yX7_in, .static yX7_in, .code yX7_in cX7_in 6 (some .boolean)] ++ wsX70)
def wsX7_from : List Cond := .code yX7_from cX7_from 4 (some .int) :: ([.fieldLink RX7 17 "ShapeJudgeModel" "many" "[I", .fieldLink RX7 20 "ShapeJudgeModel" "names" "[I", .fieldLink RX7 23 "ShapeJudgeModel" "tos" "[I", .methodLink RX7 152 yX7_isNode, .instanceMethod yX7_isNode, .selects RX7 yX7_isNode yX7_isNode, .initialized RX7, .code yX7_isNode cX7_isNode 2 (some .boolean), .fieldLink RX7 140 "ShapeJudgeModel" "nodes" "I", .methodLink RX7 144 yX7_in, .static yX7_in, .code yX7_in cX7_in 6 (some .boolean)] ++ wsX70)
def wsX7_reset : List Cond := .code yX7_reset cX7_reset 2 (some .int) :: ([.fieldLink RX7 140 "ShapeJudgeModel" "nodes" "I", .fieldLink RX7 148 "ShapeJudgeModel" "isRead" "Z"] ++ wsX70)
def wsX7_count_r1 : List Cond := [Cond.fieldLink RX7 258 "ShapeJudgeModel" "shapes" "I", Cond.fieldLink RX7 140 "ShapeJudgeModel" "nodes" "I", Cond.fieldLink RX7 119 "ShapeJudgeModel" "fitting" "[Z", Cond.fieldLink RX7 122 "ShapeJudgeModel" "sure" "[Z", Cond.fieldLink RX7 170 "ShapeJudgeModel" "taped" "I", Cond.methodLink RX7 315 yX7_read, Cond.instanceMethod yX7_read, Cond.selects RX7 yX7_read yX7_read, Cond.initialized RX7, Cond.code yX7_read cX7_read 3 none, Cond.fieldLink RX7 148 "ShapeJudgeModel" "isRead" "Z", Cond.methodLink RX7 299 yX7_free, Cond.instanceMethod yX7_free, Cond.selects RX7 yX7_free yX7_free, Cond.code yX7_free cX7_free 2 none, Cond.fieldLink RX7 125 "ShapeJudgeModel" "only" "[I", Cond.methodLink RX7 302 yX7_findRanks, Cond.instanceMethod yX7_findRanks, Cond.selects RX7 yX7_findRanks yX7_findRanks, Cond.code yX7_findRanks cX7_findRanks 6 none, Cond.fieldLink RX7 131 "ShapeJudgeModel" "ranks" "[I", Cond.fieldLink RX7 32 "ShapeJudgeModel" "parts" "[I", Cond.fieldLink RX7 38 "ShapeJudgeModel" "pTest" "[I", Cond.fieldLink RX7 41 "ShapeJudgeModel" "pFirst" "[I"]
def wsX7_count_r2 : List Cond := [Cond.methodLink RX7 305 yX7_changes, Cond.instanceMethod yX7_changes, Cond.selects RX7 yX7_changes yX7_changes, Cond.code yX7_changes cX7_changes 7 (some .boolean), Cond.methodLink RX7 295 yX7_can, Cond.instanceMethod yX7_can, Cond.selects RX7 yX7_can yX7_can, Cond.code yX7_can cX7_can 5 (some .boolean), Cond.fieldLink RX7 29 "ShapeJudgeModel" "closed" "[Z", Cond.fieldLink RX7 17 "ShapeJudgeModel" "many" "[I", Cond.methodLink RX7 288 yX7_wantedSet, Cond.instanceMethod yX7_wantedSet, Cond.selects RX7 yX7_wantedSet yX7_wantedSet, Cond.code yX7_wantedSet cX7_wantedSet 5 (some .int), Cond.fieldLink RX7 20 "ShapeJudgeModel" "names" "[I", Cond.methodLink RX7 284 yX7_isWanted, Cond.instanceMethod yX7_isWanted, Cond.selects RX7 yX7_isWanted yX7_isWanted, Cond.code yX7_isWanted cX7_isWanted 5 (some .boolean), Cond.fieldLink RX7 35 "ShapeJudgeModel" "pName" "[I", Cond.methodLink RX7 291 yX7_dealtTo, Cond.instanceMethod yX7_dealtTo, Cond.selects RX7 yX7_dealtTo yX7_dealtTo, Cond.code yX7_dealtTo cX7_dealtTo 12 (some .int)]
def wsX7_count_r3 : List Cond := [Cond.fieldLink RX7 47 "ShapeJudgeModel" "size" "[I", Cond.fieldLink RX7 128 "ShapeJudgeModel" "sets" "[I", Cond.fieldLink RX7 50 "ShapeJudgeModel" "kind" "[I", Cond.fieldLink RX7 53 "ShapeJudgeModel" "around" "[I", Cond.fieldLink RX7 62 "ShapeJudgeModel" "partOf" "[I", Cond.fieldLink RX7 56 "ShapeJudgeModel" "least" "[I", Cond.fieldLink RX7 59 "ShapeJudgeModel" "most" "[I", Cond.methodLink RX7 277 yX7_takes, Cond.instanceMethod yX7_takes, Cond.selects RX7 yX7_takes yX7_takes, Cond.code yX7_takes cX7_takes 6 (some .boolean), Cond.fieldLink RX7 23 "ShapeJudgeModel" "tos" "[I", Cond.fieldLink RX7 7 "ShapeJudgeModel" "hasValue" "[Z", Cond.fieldLink RX7 13 "ShapeJudgeModel" "values" "[I", Cond.fieldLink RX7 44 "ShapeJudgeModel" "pSecond" "[I", Cond.methodLink RX7 144 yX7_in, Cond.static yX7_in, Cond.code yX7_in cX7_in 6 (some .boolean), Cond.methodLink RX7 281 yX7_counted, Cond.instanceMethod yX7_counted, Cond.selects RX7 yX7_counted yX7_counted, Cond.code yX7_counted cX7_counted 7 (some .int), Cond.methodLink RX7 274 yX7_joined, Cond.static yX7_joined]
def wsX7_count_r4 : List Cond := [Cond.code yX7_joined cX7_joined 5 (some .int), Cond.methodLink RX7 166 yX7_edges, Cond.instanceMethod yX7_edges, Cond.selects RX7 yX7_edges yX7_edges, Cond.code yX7_edges cX7_edges 3 (some .int)]
def wsX7_count : List Cond := .code yX7_count cX7_count 6 (some .int) :: ((wsX7_count_r1 ++ (wsX7_count_r2 ++ (wsX7_count_r3 ++ wsX7_count_r4))) ++ wsX70)
def wsJ9_max_7cf53 : List Cond := .code yJ9_max_7cf53 cJ9_max_7cf53 2 (some .int) :: ([])
theorem inJ6 : ∀ w ∈ wsJ60, w ∈ lw_tbl := by decide +kernel
theorem inJ9 : ∀ w ∈ wsJ90, w ∈ lw_tbl := by decide +kernel
theorem inJ0 : ∀ w ∈ wsJ00, w ∈ lw_tbl := by decide +kernel
theorem inJ1 : ∀ w ∈ wsJ10, w ∈ lw_tbl := by decide +kernel
theorem inJ2 : ∀ w ∈ wsJ20, w ∈ lw_tbl := by decide +kernel
theorem inJ3 : ∀ w ∈ wsJ30, w ∈ lw_tbl := by decide +kernel
abbrev vwCl : List vw_C := [(RX0, TX0, 16), (RX1, TX1, 7), (RX2, TX2, 10), (RX3, TX3, 2), (RX4, TX4, 10), (RX5, TX5, 5), (RX6, TX6, 7), (RX7, TX7, 57)]
end
section
/-! A module's memory: cell k, place j; its layout; its world; a judgement over it -/
abbrev Mem : Type := Nat → Nat → Int32
def sto (σ : Mem) (k j : Nat) (x : Int32) : Mem := fun a => if a = k then upd (σ a) j x else σ a
theorem sto_same {σ : Mem} {k j : Nat} {x : Int32} : sto σ k j x k = upd (σ k) j x := if_pos rfl
theorem sto_other {σ : Mem} {k j a : Nat} {x : Int32} (h : a ≠ k) : sto σ k j x a = σ a := if_neg h
abbrev Lay : Type := Nat → (Nat × Nat) ⊕ (Nat × List Nat)
def zrv (ad : Nat → Nat) (x : Int32) : Value := if x < 0 then .null else .ref (ad x.toNatClampNeg)
def zcd (ad : Nat → Nat) (f : Nat → Int32) (j c : Nat) : Value := match c with
  | 0 => .int (f j)
  | 1 => zrv ad (f j)
  | t + 2 => .ref (ad t)
def zfv (ad : Nat → Nat) (f : Nat → Int32) : Nat → List Nat → List Value
  | _, [] => []
  | j, c :: cs => zcd ad f j c :: zfv ad f (j + 1) cs
theorem zfv_get {ad : Nat → Nat} {f : Nat → Int32} : ∀ (cs : List Nat) (b j c : Nat), cs[j]? = some c → (zfv ad f b cs)[j]? = some (zcd ad f (b + j) c)
  | [], b, j, c, h => by simp at h
  | c0 :: cs, b, 0, c, h => by
    simp at h
    subst h
    rfl
  | c0 :: cs, b, j + 1, c, h => by
    have h1 : cs[j]? = some c := by simpa using h
    have h2 := zfv_get (ad := ad) (f := f) cs (b + 1) j c h1
    rw [show b + (j + 1) = b + 1 + j by omega]
    simpa [zfv] using h2
theorem zfv_len {ad : Nat → Nat} {f : Nat → Int32} : ∀ (cs : List Nat) (b : Nat), (zfv ad f b cs).length = cs.length
  | [], _ => rfl
  | c :: cs, b => by simp [zfv, zfv_len cs (b + 1)]
theorem zfv_cong {ad : Nat → Nat} {f g : Nat → Int32} : ∀ (cs : List Nat) (b : Nat), (∀ j c, cs[j]? = some c → zcd ad f (b + j) c = zcd ad g (b + j) c) → zfv ad f b cs = zfv ad g b cs
  | [], _, _ => rfl
  | c :: cs, b, h => by
    have h0 := h 0 c (by simp)
    have h1 := zfv_cong (f := f) (g := g) cs (b + 1) (fun j c' hj => by
      have := h (j + 1) c' (by simpa using hj)
      rwa [show b + (j + 1) = b + 1 + j by omega] at this)
    simp only [zfv]
    rw [show b = b + 0 from rfl, h0, show b + 0 = b from rfl, h1]
theorem zfv_set {ad : Nat → Nat} {f g : Nat → Int32} {v : Value} : ∀ (cs : List Nat) (b j c : Nat), cs[j]? = some c → (∀ i c', cs[i]? = some c' → i ≠ j → zcd ad g (b + i) c' = zcd ad f (b + i) c') → zcd ad g (b + j) c = v → (zfv ad f b cs).set j v = zfv ad g b cs
  | [], b, j, c, h, _, _ => by simp at h
  | c0 :: cs, b, 0, c, h, ho, hv => by
    simp at h
    subst h
    simp only [zfv, List.set_cons_zero]
    rw [show b = b + 0 from rfl, hv]
    congr 1
    exact zfv_cong cs (b + 1) (fun j c' hj => by
      have := ho (j + 1) c' (by simpa using hj) (by omega)
      rw [show b + 1 + j = b + (j + 1) by omega]
      exact this.symm)
  | c0 :: cs, b, j + 1, c, h, ho, hv => by
    simp only [zfv, List.set_cons_succ]
    have h0 := ho 0 c0 (by simp) (by omega)
    rw [show b = b + 0 from rfl, h0, show b + 0 = b from rfl]
    congr 1
    refine zfv_set cs (b + 1) j c (by simpa using h) (fun i c' hi hne => ?_) ?_
    · have := ho (i + 1) c' (by simpa using hi) (by omega)
      rwa [show b + 1 + i = b + (i + 1) by omega]
    · rwa [show b + 1 + j = b + (j + 1) by omega]
theorem zcd_upd {ad : Nat → Nat} {f : Nat → Int32} {j i c : Nat} {x : Int32} (h : i ≠ j) : zcd ad (upd f j x) i c = zcd ad f i c := by
  match c with
  | 0 => simp only [zcd]; rw [pk_un h]
  | 1 => simp only [zcd]; rw [pk_un h]
  | t + 2 => rfl
/-- the entry of cell k -/
def zen (La : Lay) (cA : Nat → ClassId) (ad : Nat → Nat) (σ : Mem) (k : Nat) : Nat × va_E := (ad k, match La k with
  | .inl a => .inl (cA a.1, a.2, .inl (σ k))
  | .inr o => .inr (o.1, zfv ad (σ k) 0 o.2))
def zwm (La : Lay) (N : Nat) (cA : Nat → ClassId) (ad : Nat → Nat) (σ : Mem) : va_W := (List.range N).map (zen La cA ad σ)
theorem zwm_get {La : Lay} {N : Nat} {cA : Nat → ClassId} {ad : Nat → Nat} {σ : Mem} {k : Nat} (h : k < N) : (zwm La N cA ad σ)[k]? = some (zen La cA ad σ k) := by
  simp [zwm, h]
theorem zwm_lt {La : Lay} {N : Nat} {cA : Nat → ClassId} {ad : Nat → Nat} {σ : Mem} {k : Nat} {q : Nat × va_E} (h : (zwm La N cA ad σ)[k]? = some q) : k < N ∧ q = zen La cA ad σ k := by
  rcases Nat.lt_or_ge k N with h1 | h1
  · rw [zwm_get h1] at h
    exact ⟨h1, (Option.some.inj h).symm⟩
  · rw [List.getElem?_eq_none (by simpa [zwm] using h1)] at h
    cases h
theorem zwm_arr {La : Lay} {N : Nat} {cA : Nat → ClassId} {ad : Nat → Nat} {σ : Mem} {k t n : Nat} (h : k < N) (hL : La k = .inl (t, n)) : (zwm La N cA ad σ)[k]? = some (ad k, .inl (cA t, n, .inl (σ k))) := by
  rw [zwm_get h, zen, hL]
theorem zwm_obj {La : Lay} {N : Nat} {cA : Nat → ClassId} {ad : Nat → Nat} {σ : Mem} {k ci : Nat} {cs : List Nat} (h : k < N) (hL : La k = .inr (ci, cs)) : (zwm La N cA ad σ)[k]? = some (ad k, .inr (ci, zfv ad (σ k) 0 cs)) := by
  rw [zwm_get h, zen, hL]
theorem zwm_set {La : Lay} {N : Nat} {cA : Nat → ClassId} {ad : Nat → Nat} {σ τ : Mem} {k : Nat} {q : Nat × va_E} (hs : zen La cA ad τ k = q) (ho : ∀ a, a ≠ k → zen La cA ad τ a = zen La cA ad σ a) : (zwm La N cA ad σ).set k q = zwm La N cA ad τ := by
  refine List.ext_getElem? fun i => ?_
  rcases Nat.lt_or_ge i N with h1 | h1
  · rw [List.getElem?_set]
    by_cases hi : k = i
    · subst hi
      have h2 : k < (zwm La N cA ad σ).length := by simpa [zwm] using h1
      rw [if_pos rfl, if_pos h2, zwm_get h1, hs]
    · rw [if_neg hi, zwm_get h1, zwm_get h1, ho i (fun e => hi e.symm)]
  · rw [List.getElem?_eq_none (by simpa [zwm] using h1), List.getElem?_eq_none (by simpa [zwm] using h1)]
theorem zen_sto {La : Lay} {cA : Nat → ClassId} {ad : Nat → Nat} {σ : Mem} {k j a : Nat} {x : Int32} (h : a ≠ k) : zen La cA ad (sto σ k j x) a = zen La cA ad σ a := by
  simp only [zen, sto_other h]
theorem zwm_sto_arr {La : Lay} {N : Nat} {cA : Nat → ClassId} {ad : Nat → Nat} {σ : Mem} {k t n j : Nat} {x : Int32} (hL : La k = .inl (t, n)) : (zwm La N cA ad σ).set k (ad k, .inl (cA t, n, .inl (upd (σ k) j x))) = zwm La N cA ad (sto σ k j x) :=
  zwm_set (by rw [zen, hL, sto_same]) (fun _ h => zen_sto h)
theorem zwm_sto_fld {La : Lay} {N : Nat} {cA : Nat → ClassId} {ad : Nat → Nat} {σ : Mem} {k ci j c : Nat} {cs : List Nat} {x : Int32} {v : Value} (hL : La k = .inr (ci, cs)) (hc : cs[j]? = some c) (hv : zcd ad (upd (σ k) j x) j c = v) : (zwm La N cA ad σ).set k (ad k, .inr (ci, (zfv ad (σ k) 0 cs).set j v)) = zwm La N cA ad (sto σ k j x) := by
  refine zwm_set ?_ (fun _ h => zen_sto h)
  rw [zen, hL, sto_same]
  rw [zfv_set (g := upd (σ k) j x) cs 0 j c hc (fun i c' _ hne => by rw [Nat.zero_add]; exact zcd_upd hne) (by rw [Nat.zero_add]; exact hv)]
/-! the judgement -/
abbrev ZW : Type := (Nat → ClassId) × (Nat → Nat) × va_G × (Nat → Prop)
abbrev ZK : Type := (Program × Launch × Env × Room × State) × (MethodId × Array Value × List Frame × Method × Code) × ((State → Prop) × ZW) × Nat × Nat × Nat
abbrev ZM : Type := Lay × Nat × ((Nat → Nat) → (Nat → Prop) → State → Prop)
def zw (K : ZK) : ZW := K.2.2.1.2
def zl (K : ZK) : Launch := K.1.2.1
def zty (cA : Nat → ClassId) : List (ClassId × FieldType) := [(cA 0, .int), (cA 1, .boolean), (cA 2, .byte)]
def zGo (M : ZM) (K : ZK) (σ : Mem) (lv : List (Nat × Value)) (pc : Nat) (st : List Value) : Prop :=
  match K with
  | ((p, l, e, R, s), (m, args, below, meth, c), (Q, cA, ad, D, A), nL, kc, ks) => ∀ (H : Heap) (locs : List Loc) (ls : Array Slot), va_P D vwCl (zwm M.1 M.2.1 cA ad σ) H → va_S A s.heap H locs → lv_has ls nL lv → W p l e R s m args below meth c H locs kc ks Q (F0 m pc ls st)
/-- what stands beside the world, and stays while nothing outside A is written -/
def zXok (M : ZM) : Prop := (∀ (ad : Nat → Nat) (A : Nat → Prop) (s U : State), M.2.2 ad A s → s.WarmedH U.vm → s.heap.size ≤ U.heap.size → (∀ q : Nat, q < s.heap.size → ¬ A q → U.heap[q]? = s.heap[q]?) → M.2.2 ad A U) ∧ ∀ (ad : Nat → Nat) (A : Nat → Prop) (U : State) (g : JFrame) (mk : MethodId) (a : Array Value), M.2.2 ad A U → M.2.2 ad A (U.calling g mk a)
def zOK (M : ZM) (K : ZK) (cc : ByteArray) (nL : Nat) (ret : Option FieldType) (own : String) (Ts : List Cond) (rm : Room) : Prop :=
  match K with
  | ((p, l, e, R, s), (m, args, below, meth, c), (Q, cA, ad, D, A), nL', kc, ks) => p.tables.exec = Jvm.exec ∧ c.code = cc ∧ c.maxLocals = nL ∧ meth.sig.returnType = ret ∧ s.vm.findClass own = some m.cls ∧ (∀ w ∈ Ts, w.before args s = true) ∧ meth.locks = false ∧ va_K D vwCl (zty cA) s ∧ (∀ σ : Mem, va_D A (zwm M.1 M.2.1 cA ad σ)) ∧ R = rm ∧ nL' = nL ∧ zXok M ∧ M.2.2 ad A s ∧ kc ≤ R.cells ∧ ks ≤ R.slots
def zPre (M : ZM) (w : ZW) (σ : Mem) (U : State) : Prop := va_P w.2.2.1 vwCl (zwm M.1 M.2.1 w.1 w.2.1 σ) U.heap ∧ va_K w.2.2.1 vwCl (zty w.1) U ∧ (∀ τ : Mem, va_D w.2.2.2 (zwm M.1 M.2.1 w.1 w.2.1 τ)) ∧ M.2.2 w.2.1 w.2.2.2 U
def zCi (M : ZM) (l : Launch) (w : ZW) (y : MethodName) (ws : List Cond) (rm : Room) (as : List Value) (σ σ' : Mem) (r : Int32) : Prop :=
  Met l y ws rm (va_Pc as (zPre M w σ)) (va_Qi (fun (r1 : Int32) (τ : Mem) => r1 = r ∧ τ = σ') (fun τ t => zPre M w τ t) w.2.2.2) 0 0 w.2.2.2
def zCv (M : ZM) (l : Launch) (w : ZW) (y : MethodName) (ws : List Cond) (rm : Room) (as : List Value) (σ σ' : Mem) : Prop :=
  Met l y ws rm (va_Pc as (zPre M w σ)) (va_Qv (fun (τ : Mem) => τ = σ') (fun τ t => zPre M w τ t) w.2.2.2) 0 0 w.2.2.2
def zRi (M : ZM) (K : ZK) (cc : ByteArray) (σ : Mem) (r : Int32) : Prop := ∀ (lv : List (Nat × Value)) (pc : Nat), decode cc pc = .ok (.ireturn, 1) → zGo M K σ lv pc [.int r]
def zRz (M : ZM) (K : ZK) (cc : ByteArray) (σ : Mem) (r : Int32) : Prop := ∀ (lv : List (Nat × Value)) (pc : Nat), decode cc pc = .ok (.ireturn, 1) → (r = 0 ∨ r = 1) → zGo M K σ lv pc [.int r]
def zRv (M : ZM) (K : ZK) (cc : ByteArray) (σ : Mem) : Prop := ∀ (lv : List (Nat × Value)) (pc : Nat), decode cc pc = .ok (.return_, 1) → zGo M K σ lv pc []
/-! entries -/
theorem z_met_i {M : ZM} {l : Launch} {w : ZW} {y : MethodName} {ws ws' : List Cond} {rm : Room} {cc : ByteArray} {nL : Nat} {own : String} {as : List Value} {σ σ' : Mem} {r : Int32}
    (hXm : zXok M) (hy : plainName y.cls = true) (hw : ws = .code y cc nL (some .int) :: ws') (ho : y.cls = own)
    (hn : (lg_sl as).length ≤ nL)
    (body : ∀ K : ZK, zOK M K cc nL (some .int) own ws rm → zw K = w → zl K = l → zRi M K cc σ' r → zGo M K σ (lv_args 0 as) 0 []) : zCi M l w y ws rm as σ σ' r := by
  obtain ⟨cA, ad, D, A⟩ := w
  refine Met.ofW (cc := cc) (maxL := nL) (ret := some .int) hy hw ?_
  intro p e s m args below meth c s₁ B hml hv
  obtain ⟨rfl, hP, hK, hD, hXx⟩ := hv
  have hx := B.exec
  have hb := B.bytes
  have hr := B.returns
  have hts := atoms_spec (ws := ws) B.pre
  have hown : s.vm.findClass own = some m.cls := by rw [← ho]; exact findClass_of_methodNamed B.named
  have hlocks := B.notSynchronized
  have hl := lv_entry as (n := nL) hn
  rw [lg_entry_eq]
  generalize (lg_sl as ++ List.replicate (nL - (lg_sl as).length) Slot.unset).toArray = ls at hl ⊢
  have hfin : ∀ (H : Heap) (locs : List Loc), va_P D vwCl (zwm M.1 M.2.1 cA ad σ') H → va_S A s.heap H locs → ∀ t : State, t.heap = H → s.WarmedH t.vm → va_Qi (fun (r1 : Int32) (τ : Mem) => r1 = r ∧ τ = σ') (fun τ t => zPre M (cA, ad, D, A) τ t) A as.toArray s (.returned (some (.int r))) t := by
    intro H locs hP1 hS t ht hW
    refine ⟨⟨r, σ', rfl, ⟨rfl, rfl⟩, by rw [ht]; exact hP1, va_K.moved hW.alike hK, hD, ?_⟩, hS.F ht⟩
    exact hXm.1 ad A s t hXx hW (by rw [ht]; exact hS.1) (fun q h1 h2 => by rw [ht]; exact hS.2.1 q h1 h2)
  refine body ((p, l, e, (headSpec ws rm).room, s), (m, as.toArray, below, meth, c), (MQ below (va_Qi (fun (r1 : Int32) (τ : Mem) => r1 = r ∧ τ = σ') (fun τ t => zPre M (cA, ad, D, A) τ t) A) as.toArray s 0 0 A, cA, ad, D, A), nL, 0, 0) ⟨hx, hb, hml, hr, hown, hts, hlocks, hK, hD, rfl, rfl, hXm, hXx, Nat.zero_le _, Nat.zero_le _⟩ rfl rfl ?_ s.heap [] ls hP va_S.rf hl
  intro lv pc hdg H locs ls1 hP1 hS hl1
  exact W.iret hx hb hr (hfin H locs hP1 hS) hS.2.2 hdg hlocks
theorem z_met_z {M : ZM} {l : Launch} {w : ZW} {y : MethodName} {ws ws' : List Cond} {rm : Room} {cc : ByteArray} {nL : Nat} {own : String} {as : List Value} {σ σ' : Mem} {r : Int32}
    (hXm : zXok M) (hy : plainName y.cls = true) (hw : ws = .code y cc nL (some .boolean) :: ws') (ho : y.cls = own)
    (hn : (lg_sl as).length ≤ nL)
    (body : ∀ K : ZK, zOK M K cc nL (some .boolean) own ws rm → zw K = w → zl K = l → zRz M K cc σ' r → zGo M K σ (lv_args 0 as) 0 []) : zCi M l w y ws rm as σ σ' r := by
  obtain ⟨cA, ad, D, A⟩ := w
  refine Met.ofW (cc := cc) (maxL := nL) (ret := some .boolean) hy hw ?_
  intro p e s m args below meth c s₁ B hml hv
  obtain ⟨rfl, hP, hK, hD, hXx⟩ := hv
  have hx := B.exec
  have hb := B.bytes
  have hr := B.returns
  have hts := atoms_spec (ws := ws) B.pre
  have hown : s.vm.findClass own = some m.cls := by rw [← ho]; exact findClass_of_methodNamed B.named
  have hlocks := B.notSynchronized
  have hl := lv_entry as (n := nL) hn
  rw [lg_entry_eq]
  generalize (lg_sl as ++ List.replicate (nL - (lg_sl as).length) Slot.unset).toArray = ls at hl ⊢
  have hfin : ∀ (H : Heap) (locs : List Loc), va_P D vwCl (zwm M.1 M.2.1 cA ad σ') H → va_S A s.heap H locs → ∀ t : State, t.heap = H → s.WarmedH t.vm → va_Qi (fun (r1 : Int32) (τ : Mem) => r1 = r ∧ τ = σ') (fun τ t => zPre M (cA, ad, D, A) τ t) A as.toArray s (.returned (some (.int r))) t := by
    intro H locs hP1 hS t ht hW
    refine ⟨⟨r, σ', rfl, ⟨rfl, rfl⟩, by rw [ht]; exact hP1, va_K.moved hW.alike hK, hD, ?_⟩, hS.F ht⟩
    exact hXm.1 ad A s t hXx hW (by rw [ht]; exact hS.1) (fun q h1 h2 => by rw [ht]; exact hS.2.1 q h1 h2)
  refine body ((p, l, e, (headSpec ws rm).room, s), (m, as.toArray, below, meth, c), (MQ below (va_Qi (fun (r1 : Int32) (τ : Mem) => r1 = r ∧ τ = σ') (fun τ t => zPre M (cA, ad, D, A) τ t) A) as.toArray s 0 0 A, cA, ad, D, A), nL, 0, 0) ⟨hx, hb, hml, hr, hown, hts, hlocks, hK, hD, rfl, rfl, hXm, hXx, Nat.zero_le _, Nat.zero_le _⟩ rfl rfl ?_ s.heap [] ls hP va_S.rf hl
  intro lv pc hdg hz H locs ls1 hP1 hS hl1
  exact W.zret hx hb hr (by rcases hz with rfl | rfl <;> rfl) (hfin H locs hP1 hS) hS.2.2 hdg hlocks
theorem z_met_v {M : ZM} {l : Launch} {w : ZW} {y : MethodName} {ws ws' : List Cond} {rm : Room} {cc : ByteArray} {nL : Nat} {own : String} {as : List Value} {σ σ' : Mem}
    (hXm : zXok M) (hy : plainName y.cls = true) (hw : ws = .code y cc nL none :: ws') (ho : y.cls = own)
    (hn : (lg_sl as).length ≤ nL)
    (body : ∀ K : ZK, zOK M K cc nL none own ws rm → zw K = w → zl K = l → zRv M K cc σ' → zGo M K σ (lv_args 0 as) 0 []) : zCv M l w y ws rm as σ σ' := by
  obtain ⟨cA, ad, D, A⟩ := w
  refine Met.ofW (cc := cc) (maxL := nL) (ret := none) hy hw ?_
  intro p e s m args below meth c s₁ B hml hv
  obtain ⟨rfl, hP, hK, hD, hXx⟩ := hv
  have hx := B.exec
  have hb := B.bytes
  have hr := B.returns
  have hts := atoms_spec (ws := ws) B.pre
  have hown : s.vm.findClass own = some m.cls := by rw [← ho]; exact findClass_of_methodNamed B.named
  have hlocks := B.notSynchronized
  have hl := lv_entry as (n := nL) hn
  rw [lg_entry_eq]
  generalize (lg_sl as ++ List.replicate (nL - (lg_sl as).length) Slot.unset).toArray = ls at hl ⊢
  refine body ((p, l, e, (headSpec ws rm).room, s), (m, as.toArray, below, meth, c), (MQ below (va_Qv (fun (τ : Mem) => τ = σ') (fun τ t => zPre M (cA, ad, D, A) τ t) A) as.toArray s 0 0 A, cA, ad, D, A), nL, 0, 0) ⟨hx, hb, hml, hr, hown, hts, hlocks, hK, hD, rfl, rfl, hXm, hXx, Nat.zero_le _, Nat.zero_le _⟩ rfl rfl ?_ s.heap [] ls hP va_S.rf hl
  intro lv pc hdg H locs ls1 hP1 hS hl1
  refine W.vret hx hb hr (fun t ht hW => ?_) hS.2.2 hdg hlocks
  refine ⟨⟨σ', rfl, rfl, by rw [ht]; exact hP1, va_K.moved hW.alike hK, hD, ?_⟩, hS.F ht⟩
  exact hXm.1 ad A s t hXx hW (by rw [ht]; exact hS.1) (fun q h1 h2 => by rw [ht]; exact hS.2.1 q h1 h2)
end
section
/-! what a method means: an answer, or none where it would throw or not end -/
def zin (i : Int32) (n : Nat) : Bool := decide (0 ≤ i.toInt) && decide (i.toInt < n)
theorem zin_iff {i : Int32} {n : Nat} : zin i n = true ↔ 0 ≤ i.toInt ∧ i.toInt < n := by simp [zin]
theorem zin_vp {i : Int32} {n : Nat} (h : zin i n = true) : vp_in i n := vp_in_iff.mpr (zin_iff.mp h)
def ck {α : Type} (b : Prop) [Decidable b] (k : Option α) : Option α := if b then k else none
theorem ck_el {α : Type} {b : Prop} [Decidable b] {k : Option α} {y : α} (h : ck b k = some y) : b ∧ k = some y := by
  unfold ck at h
  by_cases hb : b
  · rw [if_pos hb] at h; exact ⟨hb, h⟩
  · rw [if_neg hb] at h; cases h
def bn {α β : Type} (e : α) (k : α → β) : β := k e
theorem bn_to {α β : Type} {e x : α} {k : α → β} {y : β} (h : x = e) (hf : bn e k = y) : k x = y := by rw [h]; exact hf
theorem zb_el {α γ : Type} {o : Option α} {k : α → Option γ} {y : γ} (h : o.bind k = some y) : ∃ a, o = some a ∧ k a = some y := by
  cases o with
  | none => cases h
  | some a => exact ⟨a, rfl, h⟩
def zb2 {α β γ : Type} (o : Option (α × β)) (k : α → β → Option γ) : Option γ := o.bind fun q => k q.1 q.2
theorem zb2_el {α β γ : Type} {o : Option (α × β)} {k : α → β → Option γ} {y : γ} (h : zb2 o k = some y) : ∃ a b, o = some (a, b) ∧ k a b = some y := by
  obtain ⟨⟨a, b⟩, h1, h2⟩ := zb_el h
  exact ⟨a, b, h1, h2⟩
def zb3 {α β δ γ : Type} (o : Option (α × β × δ)) (k : α → β → δ → Option γ) : Option γ := o.bind fun q => k q.1 q.2.1 q.2.2
theorem zb3_el {α β δ γ : Type} {o : Option (α × β × δ)} {k : α → β → δ → Option γ} {y : γ} (h : zb3 o k = some y) : ∃ a b c, o = some (a, b, c) ∧ k a b c = some y := by
  obtain ⟨⟨a, b, c⟩, h1, h2⟩ := zb_el h
  exact ⟨a, b, c, h1, h2⟩
def zb4 {α β δ ε γ : Type} (o : Option (α × β × δ × ε)) (k : α → β → δ → ε → Option γ) : Option γ := o.bind fun q => k q.1 q.2.1 q.2.2.1 q.2.2.2
theorem zb4_el {α β δ ε γ : Type} {o : Option (α × β × δ × ε)} {k : α → β → δ → ε → Option γ} {y : γ} (h : zb4 o k = some y) : ∃ a b c d, o = some (a, b, c, d) ∧ k a b c d = some y := by
  obtain ⟨⟨a, b, c, d⟩, h1, h2⟩ := zb_el h
  exact ⟨a, b, c, d, h1, h2⟩
/-- a loop's end: the method's own end, or on -/
def zbR {ρ α : Type} (o : Option (ρ ⊕ α)) (k : α → Option ρ) : Option ρ := match o with
  | none => none
  | some (.inl r) => some r
  | some (.inr a) => k a
theorem zbR_el {ρ α : Type} {o : Option (ρ ⊕ α)} {k : α → Option ρ} {y : ρ} (h : zbR o k = some y) : o = some (.inl y) ∨ ∃ a, o = some (.inr a) ∧ k a = some y := by
  match o, h with
  | some (.inl r), h => exact Or.inl (congrArg (fun z => some (Sum.inl z)) (Option.some.inj h))
  | some (.inr a), h => exact Or.inr ⟨a, rfl, h⟩
theorem if_t {α : Type} {c : Prop} [Decidable c] {a b y : α} (h : c) (hf : (if c then a else b) = y) : a = y := by rwa [if_pos h] at hf
theorem if_f {α : Type} {c : Prop} [Decidable c] {a b y : α} (h : ¬ c) (hf : (if c then a else b) = y) : b = y := by rwa [if_neg h] at hf
theorem if_tn {α : Type} {c : Prop} [Decidable c] {a b y : α} (h : ¬ ¬ c) (hf : (if c then a else b) = y) : a = y := if_t (Decidable.not_not.mp h) hf
theorem zby {c A : Prop} (a : c → A) (b : ¬ c → A) : A := Classical.byCases a b
theorem ztab_out {x : Int32} {n : Nat} (hn : n < 2 ^ 31) (h : ∀ j : Nat, j < n → ¬ x = nI j) : x.toInt < 0 ∨ (n : Int) - 1 < x.toInt := by
  rcases pk_ix x hn with h1 | h1 | ⟨j, hj, h1⟩
  · exact Or.inl (by simpa [Int32.lt_iff_toInt_lt] using h1)
  · right
    have h2 : (nI n).toInt ≤ x.toInt := by simpa [Int32.le_iff_toInt_le] using h1
    rw [nI_toInt hn] at h2
    omega
  · exact absurd h1 (h j hj)
def zus (x y : Int32) : Int32 := (x.toUInt32 >>> (y.toUInt32 &&& Int32.toUInt32 31)).toInt32
def zlp {α β : Type} : Nat → (α → Option (α ⊕ β)) → α → Option β
  | 0, _, _ => none
  | n + 1, f, a => match f a with
    | none => none
    | some (.inl a') => zlp n f a'
    | some (.inr b) => some b
def zlz {α β : Type} (n : Nat) (f : α → Option (α ⊕ β)) (b : β) (z : α ⊕ β) : Prop := match z with
  | .inl a => zlp n f a = some b
  | .inr b' => b' = b
theorem zlp_el {α β : Type} {n : Nat} {f : α → Option (α ⊕ β)} {a : α} {b : β} (h : zlp (n + 1) f a = some b) : ∃ z, f a = some z ∧ zlz n f b z := by
  simp only [zlp] at h
  match hf : f a, h with
  | some (.inl a'), h => exact ⟨_, rfl, h⟩
  | some (.inr b'), h => exact ⟨_, rfl, Option.some.inj h⟩
theorem zlz_r {α β : Type} {n : Nat} {f : α → Option (α ⊕ β)} {b b' : β} (h : zlz n f b (.inr b')) : b' = b := h
theorem zlz_l {α β : Type} {n : Nat} {f : α → Option (α ⊕ β)} {a : α} {b : β} (h : zlz n f b (.inl a)) : zlp n f a = some b := h
/-- a loop within, that may end the method -/
def zbS {ρ α γ : Type} (o : Option (ρ ⊕ α)) (f : ρ → Option γ) (k : α → Option γ) : Option γ := match o with
  | none => none
  | some (.inl r) => f r
  | some (.inr a) => k a
theorem zbS_el {ρ α γ : Type} {o : Option (ρ ⊕ α)} {f : ρ → Option γ} {k : α → Option γ} {y : γ} (h : zbS o f k = some y) : (∃ r, o = some (.inl r) ∧ f r = some y) ∨ ∃ a, o = some (.inr a) ∧ k a = some y := by
  match o, h with
  | some (.inl r), h => exact Or.inl ⟨r, rfl, h⟩
  | some (.inr a), h => exact Or.inr ⟨a, rfl, h⟩
theorem zne_i {x v : Int32} (h : ¬ x = v) : ¬ x.toInt = v.toInt := fun e => h (Int32.toInt_inj.mp e)
theorem zlk_out {x d : Int} : ∀ {ps : List (Int × Int)}, (∀ q ∈ ps, ¬ x = q.1) → Op.lookupswitch.offset ps d x = d
  | [], _ => rfl
  | (a, o) :: ps, h => by
    rw [Op.lookupswitch.offset_cons]
    have h1 : ¬ x = a := h (a, o) (by simp)
    have h2 := zlk_out (ps := ps) (d := d) (fun q hq => h q (by simp [hq]))
    rw [if_neg (fun e => h1 e.symm)]
    exact h2
def FU : Nat := 1000000
/-! rows of the judgement -/
section ZROWS
variable {M : ZM} {K : ZK} {cc : ByteArray} {nL : Nat} {ret : Option FieldType} {own : String} {Ts : List Cond} {rm : Room} {σ : Mem} {lv : List (Nat × Value)} {pc : Nat} {st : List Value}
theorem z_iconst (C : zOK M K cc nL ret own Ts rm) {n : Int} {v : Int32} (d : decode cc pc = .ok (.iconst n, 1)) (hv : Int32.ofInt n = v) (kk : zGo M K σ lv (pc + 1) (.int v :: st)) : zGo M K σ lv pc st := by
  obtain ⟨⟨p, l, e, R, s⟩, ⟨m, args, below, meth, c⟩, ⟨Q, cA, ad, D, A⟩, nL', kc0, ks0⟩ := K
  obtain ⟨hx, hb, hml, hr, hown, hts, hlk, hK, hD, hR, hnL, hXm, hXx, hkc, hks⟩ := C
  intro H locs ls hP hS hl
  exact lv_iconst hx hb d hv (kk H locs ls hP hS hl)
theorem z_bipush (C : zOK M K cc nL ret own Ts rm) {n : Int} {v : Int32} (d : decode cc pc = .ok (.bipush n, 2)) (hv : (Int8.ofInt n).toInt32 = v) (kk : zGo M K σ lv (pc + 2) (.int v :: st)) : zGo M K σ lv pc st := by
  obtain ⟨⟨p, l, e, R, s⟩, ⟨m, args, below, meth, c⟩, ⟨Q, cA, ad, D, A⟩, nL', kc0, ks0⟩ := K
  obtain ⟨hx, hb, hml, hr, hown, hts, hlk, hK, hD, hR, hnL, hXm, hXx, hkc, hks⟩ := C
  intro H locs ls hP hS hl
  exact lv_bipush hx hb d hv (kk H locs ls hP hS hl)
theorem z_sipush (C : zOK M K cc nL ret own Ts rm) {n : Int} {v : Int32} (d : decode cc pc = .ok (.sipush n, 3)) (hv : (Int16.ofInt n).toInt32 = v) (kk : zGo M K σ lv (pc + 3) (.int v :: st)) : zGo M K σ lv pc st := by
  obtain ⟨⟨p, l, e, R, s⟩, ⟨m, args, below, meth, c⟩, ⟨Q, cA, ad, D, A⟩, nL', kc0, ks0⟩ := K
  obtain ⟨hx, hb, hml, hr, hown, hts, hlk, hK, hD, hR, hnL, hXm, hXx, hkc, hks⟩ := C
  intro H locs ls hP hS hl
  exact lv_sipush hx hb d hv (kk H locs ls hP hS hl)
theorem z_lconst (C : zOK M K cc nL ret own Ts rm) {n : Fin 2} {v : Int64} (d : decode cc pc = .ok (.lconst n, 1)) (hv : Int64.ofNat (n : Nat) = v) (kk : zGo M K σ lv (pc + 1) (.long v :: st)) : zGo M K σ lv pc st := by
  obtain ⟨⟨p, l, e, R, s⟩, ⟨m, args, below, meth, c⟩, ⟨Q, cA, ad, D, A⟩, nL', kc0, ks0⟩ := K
  obtain ⟨hx, hb, hml, hr, hown, hts, hlk, hK, hD, hR, hnL, hXm, hXx, hkc, hks⟩ := C
  intro H locs ls hP hS hl
  exact lv_lconst hx hb d hv (kk H locs ls hP hS hl)
theorem z_ldc (C : zOK M K cc nL ret own Ts rm) {i : Nat} {v : Int32} (d : decode cc pc = .ok (.ldc i, 2)) (hc : Cond.constant own i v ∈ Ts) (kk : zGo M K σ lv (pc + 2) (.int v :: st)) : zGo M K σ lv pc st := by
  obtain ⟨⟨p, l, e, R, s⟩, ⟨m, args, below, meth, c⟩, ⟨Q, cA, ad, D, A⟩, nL', kc0, ks0⟩ := K
  obtain ⟨hx, hb, hml, hr, hown, hts, hlk, hK, hD, hR, hnL, hXm, hXx, hkc, hks⟩ := C
  intro H locs ls hP hS hl
  exact lv_ldc hx hb hown (hts _ hc) d (kk H locs ls hP hS hl)
theorem z_ldcw (C : zOK M K cc nL ret own Ts rm) {i : Nat} {v : Int32} (d : decode cc pc = .ok (.ldc_w i, 3)) (hc : Cond.constant own i v ∈ Ts) (kk : zGo M K σ lv (pc + 3) (.int v :: st)) : zGo M K σ lv pc st := by
  obtain ⟨⟨p, l, e, R, s⟩, ⟨m, args, below, meth, c⟩, ⟨Q, cA, ad, D, A⟩, nL', kc0, ks0⟩ := K
  obtain ⟨hx, hb, hml, hr, hown, hts, hlk, hK, hD, hR, hnL, hXm, hXx, hkc, hks⟩ := C
  intro H locs ls hP hS hl
  exact lv_ldcw hx hb hown (hts _ hc) d (kk H locs ls hP hS hl)
theorem z_ldc2 (C : zOK M K cc nL ret own Ts rm) {i : Nat} {v : Int64} (d : decode cc pc = .ok (.ldc2_w i, 3)) (hc : Cond.constantLong own i v ∈ Ts) (kk : zGo M K σ lv (pc + 3) (.long v :: st)) : zGo M K σ lv pc st := by
  obtain ⟨⟨p, l, e, R, s⟩, ⟨m, args, below, meth, c⟩, ⟨Q, cA, ad, D, A⟩, nL', kc0, ks0⟩ := K
  obtain ⟨hx, hb, hml, hr, hown, hts, hlk, hK, hD, hR, hnL, hXm, hXx, hkc, hks⟩ := C
  intro H locs ls hP hS hl
  exact lv_ldc2 hx hb hown (hts _ hc) d (kk H locs ls hP hS hl)
theorem z_iload_n (C : zOK M K cc nL ret own Ts rm) {f : Fin 4} {i : Nat} {x : Int32} (k : Nat) (d : decode cc pc = .ok (.iload_n f, 1)) (hf : (f : Nat) = i) (hv : lv[k]? = some (i, .int x)) (kk : zGo M K σ lv (pc + 1) (.int x :: st)) : zGo M K σ lv pc st := by
  obtain ⟨⟨p, l, e, R, s⟩, ⟨m, args, below, meth, c⟩, ⟨Q, cA, ad, D, A⟩, nL', kc0, ks0⟩ := K
  obtain ⟨hx, hb, hml, hr, hown, hts, hlk, hK, hD, hR, hnL, hXm, hXx, hkc, hks⟩ := C
  intro H locs ls hP hS hl
  exact lv_iload_n hx hb d hf (lv_at hl k hv) (kk H locs ls hP hS hl)
theorem z_iload (C : zOK M K cc nL ret own Ts rm) {i : Nat} {x : Int32} (k : Nat) (d : decode cc pc = .ok (.iload i, 2)) (hv : lv[k]? = some (i, .int x)) (kk : zGo M K σ lv (pc + 2) (.int x :: st)) : zGo M K σ lv pc st := by
  obtain ⟨⟨p, l, e, R, s⟩, ⟨m, args, below, meth, c⟩, ⟨Q, cA, ad, D, A⟩, nL', kc0, ks0⟩ := K
  obtain ⟨hx, hb, hml, hr, hown, hts, hlk, hK, hD, hR, hnL, hXm, hXx, hkc, hks⟩ := C
  intro H locs ls hP hS hl
  exact lv_iload hx hb d (lv_at hl k hv) (kk H locs ls hP hS hl)
theorem z_aload_n (C : zOK M K cc nL ret own Ts rm) {f : Fin 4} {i : Nat} {x : Nat} (k : Nat) (d : decode cc pc = .ok (.aload_n f, 1)) (hf : (f : Nat) = i) (hv : lv[k]? = some (i, .ref x)) (kk : zGo M K σ lv (pc + 1) (.ref x :: st)) : zGo M K σ lv pc st := by
  obtain ⟨⟨p, l, e, R, s⟩, ⟨m, args, below, meth, c⟩, ⟨Q, cA, ad, D, A⟩, nL', kc0, ks0⟩ := K
  obtain ⟨hx, hb, hml, hr, hown, hts, hlk, hK, hD, hR, hnL, hXm, hXx, hkc, hks⟩ := C
  intro H locs ls hP hS hl
  exact lv_aload_n hx hb d hf (lv_at hl k hv) (kk H locs ls hP hS hl)
theorem z_aload (C : zOK M K cc nL ret own Ts rm) {i : Nat} {x : Nat} (k : Nat) (d : decode cc pc = .ok (.aload i, 2)) (hv : lv[k]? = some (i, .ref x)) (kk : zGo M K σ lv (pc + 2) (.ref x :: st)) : zGo M K σ lv pc st := by
  obtain ⟨⟨p, l, e, R, s⟩, ⟨m, args, below, meth, c⟩, ⟨Q, cA, ad, D, A⟩, nL', kc0, ks0⟩ := K
  obtain ⟨hx, hb, hml, hr, hown, hts, hlk, hK, hD, hR, hnL, hXm, hXx, hkc, hks⟩ := C
  intro H locs ls hP hS hl
  exact lv_aload hx hb d (lv_at hl k hv) (kk H locs ls hP hS hl)
theorem z_lload_n (C : zOK M K cc nL ret own Ts rm) {f : Fin 4} {i : Nat} {x : Int64} (k : Nat) (d : decode cc pc = .ok (.lload_n f, 1)) (hf : (f : Nat) = i) (hv : lv[k]? = some (i, .long x)) (kk : zGo M K σ lv (pc + 1) (.long x :: st)) : zGo M K σ lv pc st := by
  obtain ⟨⟨p, l, e, R, s⟩, ⟨m, args, below, meth, c⟩, ⟨Q, cA, ad, D, A⟩, nL', kc0, ks0⟩ := K
  obtain ⟨hx, hb, hml, hr, hown, hts, hlk, hK, hD, hR, hnL, hXm, hXx, hkc, hks⟩ := C
  intro H locs ls hP hS hl
  exact lv_lload_n hx hb d hf (lv_at hl k hv) (kk H locs ls hP hS hl)
theorem z_lload (C : zOK M K cc nL ret own Ts rm) {i : Nat} {x : Int64} (k : Nat) (d : decode cc pc = .ok (.lload i, 2)) (hv : lv[k]? = some (i, .long x)) (kk : zGo M K σ lv (pc + 2) (.long x :: st)) : zGo M K σ lv pc st := by
  obtain ⟨⟨p, l, e, R, s⟩, ⟨m, args, below, meth, c⟩, ⟨Q, cA, ad, D, A⟩, nL', kc0, ks0⟩ := K
  obtain ⟨hx, hb, hml, hr, hown, hts, hlk, hK, hD, hR, hnL, hXm, hXx, hkc, hks⟩ := C
  intro H locs ls hP hS hl
  exact lv_lload hx hb d (lv_at hl k hv) (kk H locs ls hP hS hl)
theorem z_istore_n (C : zOK M K cc nL ret own Ts rm) {f : Fin 4} {i : Nat} {x : Int32} {lv2 : List (Nat × Value)} (ks : List Nat) (d : decode cc pc = .ok (.istore_n f, 1)) (hf : (f : Nat) = i) (hn : i < nL) (h2 : lv_pick ((i, Value.int x) :: lv.filter (fun q => !(q.1 == i) && !(q.1 + 1 == i && q.2.category == 2))) ks = lv2) (kk : zGo M K σ lv2 (pc + 1) st) : zGo M K σ lv pc (.int x :: st) := by
  obtain ⟨⟨p, l, e, R, s⟩, ⟨m, args, below, meth, c⟩, ⟨Q, cA, ad, D, A⟩, nL', kc0, ks0⟩ := K
  obtain ⟨hx, hb, hml, hr, hown, hts, hlk, hK, hD, hR, hnL, hXm, hXx, hkc, hks⟩ := C
  intro H locs ls hP hS hl
  subst hnL
  exact lv_istore_n hx hb d hf hl hn rfl (fun ls2 hl2 => kk H locs ls2 hP hS (lv_sub hl2 ks h2))
theorem z_istore (C : zOK M K cc nL ret own Ts rm) {i : Nat} {x : Int32} {lv2 : List (Nat × Value)} (ks : List Nat) (d : decode cc pc = .ok (.istore i, 2)) (hn : i < nL) (h2 : lv_pick ((i, Value.int x) :: lv.filter (fun q => !(q.1 == i) && !(q.1 + 1 == i && q.2.category == 2))) ks = lv2) (kk : zGo M K σ lv2 (pc + 2) st) : zGo M K σ lv pc (.int x :: st) := by
  obtain ⟨⟨p, l, e, R, s⟩, ⟨m, args, below, meth, c⟩, ⟨Q, cA, ad, D, A⟩, nL', kc0, ks0⟩ := K
  obtain ⟨hx, hb, hml, hr, hown, hts, hlk, hK, hD, hR, hnL, hXm, hXx, hkc, hks⟩ := C
  intro H locs ls hP hS hl
  subst hnL
  exact lv_istore hx hb d hl hn rfl (fun ls2 hl2 => kk H locs ls2 hP hS (lv_sub hl2 ks h2))
theorem z_astore_n (C : zOK M K cc nL ret own Ts rm) {f : Fin 4} {i : Nat} {x : Nat} {lv2 : List (Nat × Value)} (ks : List Nat) (d : decode cc pc = .ok (.astore_n f, 1)) (hf : (f : Nat) = i) (hn : i < nL) (h2 : lv_pick ((i, Value.ref x) :: lv.filter (fun q => !(q.1 == i) && !(q.1 + 1 == i && q.2.category == 2))) ks = lv2) (kk : zGo M K σ lv2 (pc + 1) st) : zGo M K σ lv pc (.ref x :: st) := by
  obtain ⟨⟨p, l, e, R, s⟩, ⟨m, args, below, meth, c⟩, ⟨Q, cA, ad, D, A⟩, nL', kc0, ks0⟩ := K
  obtain ⟨hx, hb, hml, hr, hown, hts, hlk, hK, hD, hR, hnL, hXm, hXx, hkc, hks⟩ := C
  intro H locs ls hP hS hl
  subst hnL
  exact lv_astore_n hx hb d hf hl hn rfl (fun ls2 hl2 => kk H locs ls2 hP hS (lv_sub hl2 ks h2))
theorem z_astore (C : zOK M K cc nL ret own Ts rm) {i : Nat} {x : Nat} {lv2 : List (Nat × Value)} (ks : List Nat) (d : decode cc pc = .ok (.astore i, 2)) (hn : i < nL) (h2 : lv_pick ((i, Value.ref x) :: lv.filter (fun q => !(q.1 == i) && !(q.1 + 1 == i && q.2.category == 2))) ks = lv2) (kk : zGo M K σ lv2 (pc + 2) st) : zGo M K σ lv pc (.ref x :: st) := by
  obtain ⟨⟨p, l, e, R, s⟩, ⟨m, args, below, meth, c⟩, ⟨Q, cA, ad, D, A⟩, nL', kc0, ks0⟩ := K
  obtain ⟨hx, hb, hml, hr, hown, hts, hlk, hK, hD, hR, hnL, hXm, hXx, hkc, hks⟩ := C
  intro H locs ls hP hS hl
  subst hnL
  exact lv_astore hx hb d hl hn rfl (fun ls2 hl2 => kk H locs ls2 hP hS (lv_sub hl2 ks h2))
theorem z_iinc (C : zOK M K cc nL ret own Ts rm) {i : Nat} {n : Int} {nv x v : Int32} {lv2 : List (Nat × Value)} (k : Nat) (ks : List Nat) (d : decode cc pc = .ok (.iinc i n, 3)) (hn : Int32.ofInt n = nv) (hk : lv[k]? = some (i, .int x)) (hi : i < nL) (hv : v = x + nv) (h2 : lv_pick ((i, Value.int v) :: lv.filter (fun q => !(q.1 == i) && !(q.1 + 1 == i && q.2.category == 2))) ks = lv2) (kk : zGo M K σ lv2 (pc + 3) st) : zGo M K σ lv pc st := by
  obtain ⟨⟨p, l, e, R, s⟩, ⟨m, args, below, meth, c⟩, ⟨Q, cA, ad, D, A⟩, nL', kc0, ks0⟩ := K
  obtain ⟨hx, hb, hml, hr, hown, hts, hlk, hK, hD, hR, hnL, hXm, hXx, hkc, hks⟩ := C
  intro H locs ls hP hS hl
  subst hnL
  exact lv_iinc (v := v) hx hb d hl hk (by rw [hn]; exact hv.symm) hi rfl (fun ls2 hl2 => kk H locs ls2 hP hS (lv_sub hl2 ks h2))
theorem z_iadd (C : zOK M K cc nL ret own Ts rm) {x y : Int32} (d : decode cc pc = .ok (.iadd, 1)) (kk : zGo M K σ lv (pc + 1) (.int (x + y) :: st)) : zGo M K σ lv pc (.int y :: .int x :: st) := by
  obtain ⟨⟨p, l, e, R, s⟩, ⟨m, args, below, meth, c⟩, ⟨Q, cA, ad, D, A⟩, nL', kc0, ks0⟩ := K
  obtain ⟨hx, hb, hml, hr, hown, hts, hlk, hK, hD, hR, hnL, hXm, hXx, hkc, hks⟩ := C
  intro H locs ls hP hS hl
  exact lv_iadd hx hb d (kk H locs ls hP hS hl)
theorem z_isub (C : zOK M K cc nL ret own Ts rm) {x y : Int32} (d : decode cc pc = .ok (.isub, 1)) (kk : zGo M K σ lv (pc + 1) (.int (x - y) :: st)) : zGo M K σ lv pc (.int y :: .int x :: st) := by
  obtain ⟨⟨p, l, e, R, s⟩, ⟨m, args, below, meth, c⟩, ⟨Q, cA, ad, D, A⟩, nL', kc0, ks0⟩ := K
  obtain ⟨hx, hb, hml, hr, hown, hts, hlk, hK, hD, hR, hnL, hXm, hXx, hkc, hks⟩ := C
  intro H locs ls hP hS hl
  exact lv_isub hx hb d (kk H locs ls hP hS hl)
theorem z_imul (C : zOK M K cc nL ret own Ts rm) {x y : Int32} (d : decode cc pc = .ok (.imul, 1)) (kk : zGo M K σ lv (pc + 1) (.int (x * y) :: st)) : zGo M K σ lv pc (.int y :: .int x :: st) := by
  obtain ⟨⟨p, l, e, R, s⟩, ⟨m, args, below, meth, c⟩, ⟨Q, cA, ad, D, A⟩, nL', kc0, ks0⟩ := K
  obtain ⟨hx, hb, hml, hr, hown, hts, hlk, hK, hD, hR, hnL, hXm, hXx, hkc, hks⟩ := C
  intro H locs ls hP hS hl
  exact lv_imul hx hb d (kk H locs ls hP hS hl)
theorem z_iand (C : zOK M K cc nL ret own Ts rm) {x y : Int32} (d : decode cc pc = .ok (.iand, 1)) (kk : zGo M K σ lv (pc + 1) (.int (x &&& y) :: st)) : zGo M K σ lv pc (.int y :: .int x :: st) := by
  obtain ⟨⟨p, l, e, R, s⟩, ⟨m, args, below, meth, c⟩, ⟨Q, cA, ad, D, A⟩, nL', kc0, ks0⟩ := K
  obtain ⟨hx, hb, hml, hr, hown, hts, hlk, hK, hD, hR, hnL, hXm, hXx, hkc, hks⟩ := C
  intro H locs ls hP hS hl
  exact lv_iand hx hb d (kk H locs ls hP hS hl)
theorem z_ior (C : zOK M K cc nL ret own Ts rm) {x y : Int32} (d : decode cc pc = .ok (.ior, 1)) (kk : zGo M K σ lv (pc + 1) (.int (x ||| y) :: st)) : zGo M K σ lv pc (.int y :: .int x :: st) := by
  obtain ⟨⟨p, l, e, R, s⟩, ⟨m, args, below, meth, c⟩, ⟨Q, cA, ad, D, A⟩, nL', kc0, ks0⟩ := K
  obtain ⟨hx, hb, hml, hr, hown, hts, hlk, hK, hD, hR, hnL, hXm, hXx, hkc, hks⟩ := C
  intro H locs ls hP hS hl
  exact lv_ior hx hb d (kk H locs ls hP hS hl)
theorem z_ixor (C : zOK M K cc nL ret own Ts rm) {x y : Int32} (d : decode cc pc = .ok (.ixor, 1)) (kk : zGo M K σ lv (pc + 1) (.int (x ^^^ y) :: st)) : zGo M K σ lv pc (.int y :: .int x :: st) := by
  obtain ⟨⟨p, l, e, R, s⟩, ⟨m, args, below, meth, c⟩, ⟨Q, cA, ad, D, A⟩, nL', kc0, ks0⟩ := K
  obtain ⟨hx, hb, hml, hr, hown, hts, hlk, hK, hD, hR, hnL, hXm, hXx, hkc, hks⟩ := C
  intro H locs ls hP hS hl
  exact lv_ixor hx hb d (kk H locs ls hP hS hl)
theorem z_ishl (C : zOK M K cc nL ret own Ts rm) {x y : Int32} (d : decode cc pc = .ok (.ishl, 1)) (kk : zGo M K σ lv (pc + 1) (.int (x <<< (y &&& 31)) :: st)) : zGo M K σ lv pc (.int y :: .int x :: st) := by
  obtain ⟨⟨p, l, e, R, s⟩, ⟨m, args, below, meth, c⟩, ⟨Q, cA, ad, D, A⟩, nL', kc0, ks0⟩ := K
  obtain ⟨hx, hb, hml, hr, hown, hts, hlk, hK, hD, hR, hnL, hXm, hXx, hkc, hks⟩ := C
  intro H locs ls hP hS hl
  exact lv_ishl hx hb d (kk H locs ls hP hS hl)
theorem z_ishr (C : zOK M K cc nL ret own Ts rm) {x y : Int32} (d : decode cc pc = .ok (.ishr, 1)) (kk : zGo M K σ lv (pc + 1) (.int (x >>> (y &&& 31)) :: st)) : zGo M K σ lv pc (.int y :: .int x :: st) := by
  obtain ⟨⟨p, l, e, R, s⟩, ⟨m, args, below, meth, c⟩, ⟨Q, cA, ad, D, A⟩, nL', kc0, ks0⟩ := K
  obtain ⟨hx, hb, hml, hr, hown, hts, hlk, hK, hD, hR, hnL, hXm, hXx, hkc, hks⟩ := C
  intro H locs ls hP hS hl
  exact lv_ishr hx hb d (kk H locs ls hP hS hl)
theorem z_idiv (C : zOK M K cc nL ret own Ts rm) {x y : Int32} (d : decode cc pc = .ok (.idiv, 1)) (hne : ¬ y = 0) (kk : zGo M K σ lv (pc + 1) (.int (x / y) :: st)) : zGo M K σ lv pc (.int y :: .int x :: st) := by
  obtain ⟨⟨p, l, e, R, s⟩, ⟨m, args, below, meth, c⟩, ⟨Q, cA, ad, D, A⟩, nL', kc0, ks0⟩ := K
  obtain ⟨hx, hb, hml, hr, hown, hts, hlk, hK, hD, hR, hnL, hXm, hXx, hkc, hks⟩ := C
  intro H locs ls hP hS hl
  exact lv_idiv hx hb d hne (kk H locs ls hP hS hl)
theorem z_irem (C : zOK M K cc nL ret own Ts rm) {x y : Int32} (d : decode cc pc = .ok (.irem, 1)) (hne : ¬ y = 0) (kk : zGo M K σ lv (pc + 1) (.int (x - x / y * y) :: st)) : zGo M K σ lv pc (.int y :: .int x :: st) := by
  obtain ⟨⟨p, l, e, R, s⟩, ⟨m, args, below, meth, c⟩, ⟨Q, cA, ad, D, A⟩, nL', kc0, ks0⟩ := K
  obtain ⟨hx, hb, hml, hr, hown, hts, hlk, hK, hD, hR, hnL, hXm, hXx, hkc, hks⟩ := C
  intro H locs ls hP hS hl
  exact lv_irem hx hb d hne (kk H locs ls hP hS hl)
theorem z_ineg (C : zOK M K cc nL ret own Ts rm) {x : Int32} (d : decode cc pc = .ok (.ineg, 1)) (kk : zGo M K σ lv (pc + 1) (.int (-x) :: st)) : zGo M K σ lv pc (.int x :: st) := by
  obtain ⟨⟨p, l, e, R, s⟩, ⟨m, args, below, meth, c⟩, ⟨Q, cA, ad, D, A⟩, nL', kc0, ks0⟩ := K
  obtain ⟨hx, hb, hml, hr, hown, hts, hlk, hK, hD, hR, hnL, hXm, hXx, hkc, hks⟩ := C
  intro H locs ls hP hS hl
  exact lv_ineg hx hb d (kk H locs ls hP hS hl)
theorem z_iushr (C : zOK M K cc nL ret own Ts rm) {x y : Int32} (d : decode cc pc = .ok (.iushr, 1)) (kk : zGo M K σ lv (pc + 1) (.int (zus x y) :: st)) : zGo M K σ lv pc (.int y :: .int x :: st) := by
  obtain ⟨⟨p, l, e, R, s⟩, ⟨m, args, below, meth, c⟩, ⟨Q, cA, ad, D, A⟩, nL', kc0, ks0⟩ := K
  obtain ⟨hx, hb, hml, hr, hown, hts, hlk, hK, hD, hR, hnL, hXm, hXx, hkc, hks⟩ := C
  intro H locs ls hP hS hl
  exact lv_iushr hx hb d rfl (kk H locs ls hP hS hl)
theorem z_i2b (C : zOK M K cc nL ret own Ts rm) {x : Int32} (d : decode cc pc = .ok (.i2b, 1)) (kk : zGo M K σ lv (pc + 1) (.int x.toInt8.toInt32 :: st)) : zGo M K σ lv pc (.int x :: st) := by
  obtain ⟨⟨p, l, e, R, s⟩, ⟨m, args, below, meth, c⟩, ⟨Q, cA, ad, D, A⟩, nL', kc0, ks0⟩ := K
  obtain ⟨hx, hb, hml, hr, hown, hts, hlk, hK, hD, hR, hnL, hXm, hXx, hkc, hks⟩ := C
  intro H locs ls hP hS hl
  exact lv_i2b hx hb d rfl (kk H locs ls hP hS hl)
theorem z_i2l (C : zOK M K cc nL ret own Ts rm) {x : Int32} (d : decode cc pc = .ok (.i2l, 1)) (kk : zGo M K σ lv (pc + 1) (.long x.toInt64 :: st)) : zGo M K σ lv pc (.int x :: st) := by
  obtain ⟨⟨p, l, e, R, s⟩, ⟨m, args, below, meth, c⟩, ⟨Q, cA, ad, D, A⟩, nL', kc0, ks0⟩ := K
  obtain ⟨hx, hb, hml, hr, hown, hts, hlk, hK, hD, hR, hnL, hXm, hXx, hkc, hks⟩ := C
  intro H locs ls hP hS hl
  exact lv_i2l hx hb d rfl (kk H locs ls hP hS hl)
theorem z_lcmp (C : zOK M K cc nL ret own Ts rm) {x y : Int64} (d : decode cc pc = .ok (.lcmp, 1)) (kk : zGo M K σ lv (pc + 1) (.int (lg_cmp x y) :: st)) : zGo M K σ lv pc (.long y :: .long x :: st) := by
  obtain ⟨⟨p, l, e, R, s⟩, ⟨m, args, below, meth, c⟩, ⟨Q, cA, ad, D, A⟩, nL', kc0, ks0⟩ := K
  obtain ⟨hx, hb, hml, hr, hown, hts, hlk, hK, hD, hR, hnL, hXm, hXx, hkc, hks⟩ := C
  intro H locs ls hP hS hl
  exact W.lcmp hx hb d (kk H locs ls hP hS hl)
theorem z_dup_i (C : zOK M K cc nL ret own Ts rm) {x : Int32} (d : decode cc pc = .ok (.dup, 1)) (kk : zGo M K σ lv (pc + 1) (.int x :: .int x :: st)) : zGo M K σ lv pc (.int x :: st) := by
  obtain ⟨⟨p, l, e, R, s⟩, ⟨m, args, below, meth, c⟩, ⟨Q, cA, ad, D, A⟩, nL', kc0, ks0⟩ := K
  obtain ⟨hx, hb, hml, hr, hown, hts, hlk, hK, hD, hR, hnL, hXm, hXx, hkc, hks⟩ := C
  intro H locs ls hP hS hl
  exact lv_dup hx hb d rfl (kk H locs ls hP hS hl)
theorem z_dup_a (C : zOK M K cc nL ret own Ts rm) {x : Nat} (d : decode cc pc = .ok (.dup, 1)) (kk : zGo M K σ lv (pc + 1) (.ref x :: .ref x :: st)) : zGo M K σ lv pc (.ref x :: st) := by
  obtain ⟨⟨p, l, e, R, s⟩, ⟨m, args, below, meth, c⟩, ⟨Q, cA, ad, D, A⟩, nL', kc0, ks0⟩ := K
  obtain ⟨hx, hb, hml, hr, hown, hts, hlk, hK, hD, hR, hnL, hXm, hXx, hkc, hks⟩ := C
  intro H locs ls hP hS hl
  exact lv_dup hx hb d rfl (kk H locs ls hP hS hl)
theorem z_dup2 (C : zOK M K cc nL ret own Ts rm) {x : Int32} {a : Nat} (d : decode cc pc = .ok (.dup2, 1)) (kk : zGo M K σ lv (pc + 1) (.int x :: .ref a :: .int x :: .ref a :: st)) : zGo M K σ lv pc (.int x :: .ref a :: st) := by
  obtain ⟨⟨p, l, e, R, s⟩, ⟨m, args, below, meth, c⟩, ⟨Q, cA, ad, D, A⟩, nL', kc0, ks0⟩ := K
  obtain ⟨hx, hb, hml, hr, hown, hts, hlk, hK, hD, hR, hnL, hXm, hXx, hkc, hks⟩ := C
  intro H locs ls hP hS hl
  exact lv_dup2_11 hx hb d rfl rfl (kk H locs ls hP hS hl)
theorem z_pop (C : zOK M K cc nL ret own Ts rm) {x : Int32} (d : decode cc pc = .ok (.pop, 1)) (kk : zGo M K σ lv (pc + 1) st) : zGo M K σ lv pc (.int x :: st) := by
  obtain ⟨⟨p, l, e, R, s⟩, ⟨m, args, below, meth, c⟩, ⟨Q, cA, ad, D, A⟩, nL', kc0, ks0⟩ := K
  obtain ⟨hx, hb, hml, hr, hown, hts, hlk, hK, hD, hR, hnL, hXm, hXx, hkc, hks⟩ := C
  intro H locs ls hP hS hl
  exact lv_pop hx hb d rfl (kk H locs ls hP hS hl)
theorem z_if_eq (C : zOK M K cc nL ret own Ts rm) {x : Int32} {off : Int} {tgt : Nat} (d : decode cc pc = .ok (.ifCond .eq off, 3)) (ht : (pc : Int) + off = (tgt : Int)) (kt : x = 0 → zGo M K σ lv tgt st) (kf : ¬ x = 0 → zGo M K σ lv (pc + 3) st) : zGo M K σ lv pc (.int x :: st) := by
  obtain ⟨⟨p, l, e, R, s⟩, ⟨m, args, below, meth, c⟩, ⟨Q, cA, ad, D, A⟩, nL', kc0, ks0⟩ := K
  obtain ⟨hx, hb, hml, hr, hown, hts, hlk, hK, hD, hR, hnL, hXm, hXx, hkc, hks⟩ := C
  intro H locs ls hP hS hl
  exact lv_if_eq hx hb d ht (fun h => kt h H locs ls hP hS hl) (fun h => kf h H locs ls hP hS hl)
theorem z_icmp_eq (C : zOK M K cc nL ret own Ts rm) {x y : Int32} {off : Int} {tgt : Nat} (d : decode cc pc = .ok (.if_icmp .eq off, 3)) (ht : (pc : Int) + off = (tgt : Int)) (kt : x = y → zGo M K σ lv tgt st) (kf : ¬ x = y → zGo M K σ lv (pc + 3) st) : zGo M K σ lv pc (.int y :: .int x :: st) := by
  obtain ⟨⟨p, l, e, R, s⟩, ⟨m, args, below, meth, c⟩, ⟨Q, cA, ad, D, A⟩, nL', kc0, ks0⟩ := K
  obtain ⟨hx, hb, hml, hr, hown, hts, hlk, hK, hD, hR, hnL, hXm, hXx, hkc, hks⟩ := C
  intro H locs ls hP hS hl
  exact lv_icmp_eq hx hb d ht (fun h => kt h H locs ls hP hS hl) (fun h => kf h H locs ls hP hS hl)
theorem z_if_ne (C : zOK M K cc nL ret own Ts rm) {x : Int32} {off : Int} {tgt : Nat} (d : decode cc pc = .ok (.ifCond .ne off, 3)) (ht : (pc : Int) + off = (tgt : Int)) (kt : ¬ x = 0 → zGo M K σ lv tgt st) (kf : x = 0 → zGo M K σ lv (pc + 3) st) : zGo M K σ lv pc (.int x :: st) := by
  obtain ⟨⟨p, l, e, R, s⟩, ⟨m, args, below, meth, c⟩, ⟨Q, cA, ad, D, A⟩, nL', kc0, ks0⟩ := K
  obtain ⟨hx, hb, hml, hr, hown, hts, hlk, hK, hD, hR, hnL, hXm, hXx, hkc, hks⟩ := C
  intro H locs ls hP hS hl
  exact lv_if_ne hx hb d ht (fun h => kt h H locs ls hP hS hl) (fun h => kf h H locs ls hP hS hl)
theorem z_icmp_ne (C : zOK M K cc nL ret own Ts rm) {x y : Int32} {off : Int} {tgt : Nat} (d : decode cc pc = .ok (.if_icmp .ne off, 3)) (ht : (pc : Int) + off = (tgt : Int)) (kt : ¬ x = y → zGo M K σ lv tgt st) (kf : x = y → zGo M K σ lv (pc + 3) st) : zGo M K σ lv pc (.int y :: .int x :: st) := by
  obtain ⟨⟨p, l, e, R, s⟩, ⟨m, args, below, meth, c⟩, ⟨Q, cA, ad, D, A⟩, nL', kc0, ks0⟩ := K
  obtain ⟨hx, hb, hml, hr, hown, hts, hlk, hK, hD, hR, hnL, hXm, hXx, hkc, hks⟩ := C
  intro H locs ls hP hS hl
  exact lv_icmp_ne hx hb d ht (fun h => kt h H locs ls hP hS hl) (fun h => kf h H locs ls hP hS hl)
theorem z_if_lt (C : zOK M K cc nL ret own Ts rm) {x : Int32} {off : Int} {tgt : Nat} (d : decode cc pc = .ok (.ifCond .lt off, 3)) (ht : (pc : Int) + off = (tgt : Int)) (kt : x < 0 → zGo M K σ lv tgt st) (kf : ¬ x < 0 → zGo M K σ lv (pc + 3) st) : zGo M K σ lv pc (.int x :: st) := by
  obtain ⟨⟨p, l, e, R, s⟩, ⟨m, args, below, meth, c⟩, ⟨Q, cA, ad, D, A⟩, nL', kc0, ks0⟩ := K
  obtain ⟨hx, hb, hml, hr, hown, hts, hlk, hK, hD, hR, hnL, hXm, hXx, hkc, hks⟩ := C
  intro H locs ls hP hS hl
  exact lv_if_lt hx hb d ht (fun h => kt h H locs ls hP hS hl) (fun h => kf h H locs ls hP hS hl)
theorem z_icmp_lt (C : zOK M K cc nL ret own Ts rm) {x y : Int32} {off : Int} {tgt : Nat} (d : decode cc pc = .ok (.if_icmp .lt off, 3)) (ht : (pc : Int) + off = (tgt : Int)) (kt : x < y → zGo M K σ lv tgt st) (kf : ¬ x < y → zGo M K σ lv (pc + 3) st) : zGo M K σ lv pc (.int y :: .int x :: st) := by
  obtain ⟨⟨p, l, e, R, s⟩, ⟨m, args, below, meth, c⟩, ⟨Q, cA, ad, D, A⟩, nL', kc0, ks0⟩ := K
  obtain ⟨hx, hb, hml, hr, hown, hts, hlk, hK, hD, hR, hnL, hXm, hXx, hkc, hks⟩ := C
  intro H locs ls hP hS hl
  exact lv_icmp_lt hx hb d ht (fun h => kt h H locs ls hP hS hl) (fun h => kf h H locs ls hP hS hl)
theorem z_if_ge (C : zOK M K cc nL ret own Ts rm) {x : Int32} {off : Int} {tgt : Nat} (d : decode cc pc = .ok (.ifCond .ge off, 3)) (ht : (pc : Int) + off = (tgt : Int)) (kt : 0 ≤ x → zGo M K σ lv tgt st) (kf : ¬ 0 ≤ x → zGo M K σ lv (pc + 3) st) : zGo M K σ lv pc (.int x :: st) := by
  obtain ⟨⟨p, l, e, R, s⟩, ⟨m, args, below, meth, c⟩, ⟨Q, cA, ad, D, A⟩, nL', kc0, ks0⟩ := K
  obtain ⟨hx, hb, hml, hr, hown, hts, hlk, hK, hD, hR, hnL, hXm, hXx, hkc, hks⟩ := C
  intro H locs ls hP hS hl
  exact lv_if_ge hx hb d ht (fun h => kt h H locs ls hP hS hl) (fun h => kf h H locs ls hP hS hl)
theorem z_icmp_ge (C : zOK M K cc nL ret own Ts rm) {x y : Int32} {off : Int} {tgt : Nat} (d : decode cc pc = .ok (.if_icmp .ge off, 3)) (ht : (pc : Int) + off = (tgt : Int)) (kt : y ≤ x → zGo M K σ lv tgt st) (kf : ¬ y ≤ x → zGo M K σ lv (pc + 3) st) : zGo M K σ lv pc (.int y :: .int x :: st) := by
  obtain ⟨⟨p, l, e, R, s⟩, ⟨m, args, below, meth, c⟩, ⟨Q, cA, ad, D, A⟩, nL', kc0, ks0⟩ := K
  obtain ⟨hx, hb, hml, hr, hown, hts, hlk, hK, hD, hR, hnL, hXm, hXx, hkc, hks⟩ := C
  intro H locs ls hP hS hl
  exact lv_icmp_ge hx hb d ht (fun h => kt h H locs ls hP hS hl) (fun h => kf h H locs ls hP hS hl)
theorem z_if_gt (C : zOK M K cc nL ret own Ts rm) {x : Int32} {off : Int} {tgt : Nat} (d : decode cc pc = .ok (.ifCond .gt off, 3)) (ht : (pc : Int) + off = (tgt : Int)) (kt : 0 < x → zGo M K σ lv tgt st) (kf : ¬ 0 < x → zGo M K σ lv (pc + 3) st) : zGo M K σ lv pc (.int x :: st) := by
  obtain ⟨⟨p, l, e, R, s⟩, ⟨m, args, below, meth, c⟩, ⟨Q, cA, ad, D, A⟩, nL', kc0, ks0⟩ := K
  obtain ⟨hx, hb, hml, hr, hown, hts, hlk, hK, hD, hR, hnL, hXm, hXx, hkc, hks⟩ := C
  intro H locs ls hP hS hl
  exact lv_if_gt hx hb d ht (fun h => kt h H locs ls hP hS hl) (fun h => kf h H locs ls hP hS hl)
theorem z_icmp_gt (C : zOK M K cc nL ret own Ts rm) {x y : Int32} {off : Int} {tgt : Nat} (d : decode cc pc = .ok (.if_icmp .gt off, 3)) (ht : (pc : Int) + off = (tgt : Int)) (kt : y < x → zGo M K σ lv tgt st) (kf : ¬ y < x → zGo M K σ lv (pc + 3) st) : zGo M K σ lv pc (.int y :: .int x :: st) := by
  obtain ⟨⟨p, l, e, R, s⟩, ⟨m, args, below, meth, c⟩, ⟨Q, cA, ad, D, A⟩, nL', kc0, ks0⟩ := K
  obtain ⟨hx, hb, hml, hr, hown, hts, hlk, hK, hD, hR, hnL, hXm, hXx, hkc, hks⟩ := C
  intro H locs ls hP hS hl
  exact lv_icmp_gt hx hb d ht (fun h => kt h H locs ls hP hS hl) (fun h => kf h H locs ls hP hS hl)
theorem z_if_le (C : zOK M K cc nL ret own Ts rm) {x : Int32} {off : Int} {tgt : Nat} (d : decode cc pc = .ok (.ifCond .le off, 3)) (ht : (pc : Int) + off = (tgt : Int)) (kt : x ≤ 0 → zGo M K σ lv tgt st) (kf : ¬ x ≤ 0 → zGo M K σ lv (pc + 3) st) : zGo M K σ lv pc (.int x :: st) := by
  obtain ⟨⟨p, l, e, R, s⟩, ⟨m, args, below, meth, c⟩, ⟨Q, cA, ad, D, A⟩, nL', kc0, ks0⟩ := K
  obtain ⟨hx, hb, hml, hr, hown, hts, hlk, hK, hD, hR, hnL, hXm, hXx, hkc, hks⟩ := C
  intro H locs ls hP hS hl
  exact lv_if_le hx hb d ht (fun h => kt h H locs ls hP hS hl) (fun h => kf h H locs ls hP hS hl)
theorem z_icmp_le (C : zOK M K cc nL ret own Ts rm) {x y : Int32} {off : Int} {tgt : Nat} (d : decode cc pc = .ok (.if_icmp .le off, 3)) (ht : (pc : Int) + off = (tgt : Int)) (kt : x ≤ y → zGo M K σ lv tgt st) (kf : ¬ x ≤ y → zGo M K σ lv (pc + 3) st) : zGo M K σ lv pc (.int y :: .int x :: st) := by
  obtain ⟨⟨p, l, e, R, s⟩, ⟨m, args, below, meth, c⟩, ⟨Q, cA, ad, D, A⟩, nL', kc0, ks0⟩ := K
  obtain ⟨hx, hb, hml, hr, hown, hts, hlk, hK, hD, hR, hnL, hXm, hXx, hkc, hks⟩ := C
  intro H locs ls hP hS hl
  exact lv_icmp_le hx hb d ht (fun h => kt h H locs ls hP hS hl) (fun h => kf h H locs ls hP hS hl)
theorem z_goto (C : zOK M K cc nL ret own Ts rm) {off : Int} {tgt : Nat} (d : decode cc pc = .ok (.goto off, 3)) (ht : (pc : Int) + off = (tgt : Int)) (kk : zGo M K σ lv tgt st) : zGo M K σ lv pc st := by
  obtain ⟨⟨p, l, e, R, s⟩, ⟨m, args, below, meth, c⟩, ⟨Q, cA, ad, D, A⟩, nL', kc0, ks0⟩ := K
  obtain ⟨hx, hb, hml, hr, hown, hts, hlk, hK, hD, hR, hnL, hXm, hXx, hkc, hks⟩ := C
  intro H locs ls hP hS hl
  exact lv_goto hx hb d ht (kk H locs ls hP hS hl)
theorem z_tab (C : zOK M K cc nL ret own Ts rm) {dflt lo hi : Int} {offs : Array Int} {len : Nat} {x v : Int32} {off : Int} {tgt : Nat} (hc : x = v) (d : decode cc pc = .ok (.tableswitch dflt lo hi offs, len)) (h1 : ¬ v.toInt < lo) (h2 : ¬ hi < v.toInt) (ho : offs[(v.toInt - lo).toNat]? = some off) (ht : (pc : Int) + off = (tgt : Int)) (kk : zGo M K σ lv tgt st) : zGo M K σ lv pc (.int x :: st) := by
  obtain ⟨⟨p, l, e, R, s⟩, ⟨m, args, below, meth, c⟩, ⟨Q, cA, ad, D, A⟩, nL', kc0, ks0⟩ := K
  obtain ⟨hx, hb, hml, hr, hown, hts, hlk, hK, hD, hR, hnL, hXm, hXx, hkc, hks⟩ := C
  intro H locs ls hP hS hl
  subst hc
  exact lv_tableIn hx hb d h1 h2 ho ht (kk H locs ls hP hS hl)
theorem z_tabd (C : zOK M K cc nL ret own Ts rm) {dflt lo hi : Int} {offs : Array Int} {len : Nat} {x : Int32} {tgt : Nat} (d : decode cc pc = .ok (.tableswitch dflt lo hi offs, len)) (h : x.toInt < lo ∨ hi < x.toInt) (ht : (pc : Int) + dflt = (tgt : Int)) (kk : zGo M K σ lv tgt st) : zGo M K σ lv pc (.int x :: st) := by
  obtain ⟨⟨p, l, e, R, s⟩, ⟨m, args, below, meth, c⟩, ⟨Q, cA, ad, D, A⟩, nL', kc0, ks0⟩ := K
  obtain ⟨hx, hb, hml, hr, hown, hts, hlk, hK, hD, hR, hnL, hXm, hXx, hkc, hks⟩ := C
  intro H locs ls hP hS hl
  exact lv_tableOut hx hb d h ht (kk H locs ls hP hS hl)
theorem z_lk (C : zOK M K cc nL ret own Ts rm) {dflt : Int} {ps : Array (Int × Int)} {len : Nat} {x : Int32} {off : Int} {tgt : Nat} (d : decode cc pc = .ok (.lookupswitch dflt ps, len)) (hp : (ps.toList.zip (ps.toList.drop 1)).all (fun (a, next) => a.1 < next.1) = true) (ho : Op.lookupswitch.offset ps.toList dflt x.toInt = off) (ht : (pc : Int) + off = (tgt : Int)) (kk : zGo M K σ lv tgt st) : zGo M K σ lv pc (.int x :: st) := by
  obtain ⟨⟨p, l, e, R, s⟩, ⟨m, args, below, meth, c⟩, ⟨Q, cA, ad, D, A⟩, nL', kc0, ks0⟩ := K
  obtain ⟨hx, hb, hml, hr, hown, hts, hlk, hK, hD, hR, hnL, hXm, hXx, hkc, hks⟩ := C
  intro H locs ls hP hS hl
  exact lv_lookup hx hb d hp ho ht (kk H locs ls hP hS hl)
theorem z_geti (C : zOK M K cc nL ret own Ts rm) {k ci : Nat} {cs : List Nat} (hk : k < M.2.1) (hL : M.1 k = .inr (ci, cs)) {Cn : String} {T : u_T} {n idx : Nat} (hc : vwCl[ci]? = some (Cn, T, n)) (j : Nat) (hj : j < n) (hcs : cs[j]? = some 0) (hin : ∀ w ∈ u_ws Cn T n, w ∈ Ts) (hlink : Cond.fieldLink own idx (T j).1 (T j).2.1 (T j).2.2.1 ∈ Ts) (d : decode cc pc = .ok (.getfield idx, 3)) (kk : zGo M K σ lv (pc + 3) (.int (σ k j) :: st)) : zGo M K σ lv pc (.ref ((zw K).2.1 k) :: st) := by
  obtain ⟨⟨p, l, e, R, s⟩, ⟨m, args, below, meth, c⟩, ⟨Q, cA, ad, D, A⟩, nL', kc0, ks0⟩ := K
  obtain ⟨hx, hb, hml, hr, hown, hts, hlk, hK, hD, hR, hnL, hXm, hXx, hkc, hks⟩ := C
  intro H locs ls hP hS hl
  refine va_get hx hb hts hin hown hK hP k (zwm_obj hk hL) hc j hj (hts _ hlink) (fun _ h9 => h9) (v := .int (σ k j)) ?_ d (kk H locs ls hP hS hl)
  rw [zfv_get cs 0 j _ hcs, Nat.zero_add]
  rfl
theorem z_getm (C : zOK M K cc nL ret own Ts rm) {k ci : Nat} {cs : List Nat} (hk : k < M.2.1) (hL : M.1 k = .inr (ci, cs)) {Cn : String} {T : u_T} {n idx : Nat} (hc : vwCl[ci]? = some (Cn, T, n)) (j : Nat) (hj : j < n) (hcs : cs[j]? = some 1) (hin : ∀ w ∈ u_ws Cn T n, w ∈ Ts) (hlink : Cond.fieldLink own idx (T j).1 (T j).2.1 (T j).2.2.1 ∈ Ts) (d : decode cc pc = .ok (.getfield idx, 3)) (kk : zGo M K σ lv (pc + 3) (zrv (zw K).2.1 (σ k j) :: st)) : zGo M K σ lv pc (.ref ((zw K).2.1 k) :: st) := by
  obtain ⟨⟨p, l, e, R, s⟩, ⟨m, args, below, meth, c⟩, ⟨Q, cA, ad, D, A⟩, nL', kc0, ks0⟩ := K
  obtain ⟨hx, hb, hml, hr, hown, hts, hlk, hK, hD, hR, hnL, hXm, hXx, hkc, hks⟩ := C
  intro H locs ls hP hS hl
  refine va_get hx hb hts hin hown hK hP k (zwm_obj hk hL) hc j hj (hts _ hlink) (fun _ h9 => h9) (v := zrv ad (σ k j)) ?_ d (kk H locs ls hP hS hl)
  rw [zfv_get cs 0 j _ hcs, Nat.zero_add]
  rfl
theorem z_getr (C : zOK M K cc nL ret own Ts rm) {k ci : Nat} {cs : List Nat} (hk : k < M.2.1) (hL : M.1 k = .inr (ci, cs)) {Cn : String} {T : u_T} {n idx : Nat} (hc : vwCl[ci]? = some (Cn, T, n)) (j : Nat) (hj : j < n) {t : Nat} (hcs : cs[j]? = some (t + 2)) (hin : ∀ w ∈ u_ws Cn T n, w ∈ Ts) (hlink : Cond.fieldLink own idx (T j).1 (T j).2.1 (T j).2.2.1 ∈ Ts) (d : decode cc pc = .ok (.getfield idx, 3)) (kk : zGo M K σ lv (pc + 3) (.ref ((zw K).2.1 t) :: st)) : zGo M K σ lv pc (.ref ((zw K).2.1 k) :: st) := by
  obtain ⟨⟨p, l, e, R, s⟩, ⟨m, args, below, meth, c⟩, ⟨Q, cA, ad, D, A⟩, nL', kc0, ks0⟩ := K
  obtain ⟨hx, hb, hml, hr, hown, hts, hlk, hK, hD, hR, hnL, hXm, hXx, hkc, hks⟩ := C
  intro H locs ls hP hS hl
  refine va_get hx hb hts hin hown hK hP k (zwm_obj hk hL) hc j hj (hts _ hlink) (fun _ h9 => h9) (v := .ref (ad t)) ?_ d (kk H locs ls hP hS hl)
  rw [zfv_get cs 0 j _ hcs]
  rfl
theorem z_getb (C : zOK M K cc nL ret own Ts rm) {k ci : Nat} {cs : List Nat} (hk : k < M.2.1) (hL : M.1 k = .inr (ci, cs)) {Cn : String} {T : u_T} {n idx : Nat} (hc : vwCl[ci]? = some (Cn, T, n)) (j : Nat) (hj : j < n) (hcs : cs[j]? = some 1) (hin : ∀ w ∈ u_ws Cn T n, w ∈ Ts) (hlink : Cond.fieldLink own idx (T j).1 (T j).2.1 (T j).2.2.1 ∈ Ts) {b : Nat} (hb2 : b < 2 ^ 31) (hbk : σ k j = nI b) (d : decode cc pc = .ok (.getfield idx, 3)) (kk : zGo M K σ lv (pc + 3) (.ref ((zw K).2.1 b) :: st)) : zGo M K σ lv pc (.ref ((zw K).2.1 k) :: st) := by
  obtain ⟨⟨p, l, e, R, s⟩, ⟨m, args, below, meth, c⟩, ⟨Q, cA, ad, D, A⟩, nL', kc0, ks0⟩ := K
  obtain ⟨hx, hb, hml, hr, hown, hts, hlk, hK, hD, hR, hnL, hXm, hXx, hkc, hks⟩ := C
  intro H locs ls hP hS hl
  refine va_get hx hb hts hin hown hK hP k (zwm_obj hk hL) hc j hj (hts _ hlink) (fun _ h9 => h9) (v := .ref (ad b)) ?_ d (kk H locs ls hP hS hl)
  rw [zfv_get cs 0 j _ hcs, Nat.zero_add]
  show some (zrv ad (σ k j)) = _
  rw [hbk, zrv, if_neg (nI_pos hb2), nI_clamp hb2]
theorem z_puti (C : zOK M K cc nL ret own Ts rm) {k ci : Nat} {cs : List Nat} (hk : k < M.2.1) (hL : M.1 k = .inr (ci, cs)) {Cn : String} {T : u_T} {n idx : Nat} (hc : vwCl[ci]? = some (Cn, T, n)) (j : Nat) (hj : j < n) (hcs : cs[j]? = some 0) (hin : ∀ w ∈ u_ws Cn T n, w ∈ Ts) (hlink : Cond.fieldLink own idx (T j).1 (T j).2.1 (T j).2.2.1 ∈ Ts) (ty0 : Nat → FieldType) (hty : ∀ k, k < n → parseFieldDescriptor (T k).2.2.1 = some (ty0 k)) (hnm : ∀ a, a < n → ∀ b, b < n → a ≠ b → (T a).2.1 ≠ (T b).2.1) (hfin : (T j).2.2.2 = false) {x : Int32} (h0 : ty0 j = .int) (d : decode cc pc = .ok (.putfield idx, 3)) (kk : zGo M K (sto σ k j x) lv (pc + 3) st) : zGo M K σ lv pc (.int x :: .ref ((zw K).2.1 k) :: st) := by
  obtain ⟨⟨p, l, e, R, s⟩, ⟨m, args, below, meth, c⟩, ⟨Q, cA, ad, D, A⟩, nL', kc0, ks0⟩ := K
  obtain ⟨hx, hb, hml, hr, hown, hts, hlk, hK, hD, hR, hnL, hXm, hXx, hkc, hks⟩ := C
  intro H locs ls hP hS hl
  refine va_put hx hb hts hin ty0 hty hnm hown hK hP (hD σ) hS k (zwm_obj hk hL) hc j hj (hts _ hlink) (fun _ h9 => h9) hfin (ty := .int) ((hty j hj).trans (congrArg some h0)) rfl rfl (by rw [zfv_len]; exact (List.getElem?_eq_some_iff.mp hcs).1) d (fun H1 locs1 hP1 _ hS1 => ?_)
  rw [zwm_sto_fld (c := 0) (x := x) hL hcs (by simp only [zcd, zrv]; rw [pk_us])] at hP1
  exact kk H1 locs1 ls hP1 hS1 hl
theorem z_putz (C : zOK M K cc nL ret own Ts rm) {k ci : Nat} {cs : List Nat} (hk : k < M.2.1) (hL : M.1 k = .inr (ci, cs)) {Cn : String} {T : u_T} {n idx : Nat} (hc : vwCl[ci]? = some (Cn, T, n)) (j : Nat) (hj : j < n) (hcs : cs[j]? = some 0) (hin : ∀ w ∈ u_ws Cn T n, w ∈ Ts) (hlink : Cond.fieldLink own idx (T j).1 (T j).2.1 (T j).2.2.1 ∈ Ts) (ty0 : Nat → FieldType) (hty : ∀ k, k < n → parseFieldDescriptor (T k).2.2.1 = some (ty0 k)) (hnm : ∀ a, a < n → ∀ b, b < n → a ≠ b → (T a).2.1 ≠ (T b).2.1) (hfin : (T j).2.2.2 = false) {x : Int32} (h0 : ty0 j = .boolean) (hz : x = 0 ∨ x = 1) (d : decode cc pc = .ok (.putfield idx, 3)) (kk : zGo M K (sto σ k j x) lv (pc + 3) st) : zGo M K σ lv pc (.int x :: .ref ((zw K).2.1 k) :: st) := by
  obtain ⟨⟨p, l, e, R, s⟩, ⟨m, args, below, meth, c⟩, ⟨Q, cA, ad, D, A⟩, nL', kc0, ks0⟩ := K
  obtain ⟨hx, hb, hml, hr, hown, hts, hlk, hK, hD, hR, hnL, hXm, hXx, hkc, hks⟩ := C
  intro H locs ls hP hS hl
  refine va_put hx hb hts hin ty0 hty hnm hown hK hP (hD σ) hS k (zwm_obj hk hL) hc j hj (hts _ hlink) (fun _ h9 => h9) hfin (ty := .boolean) ((hty j hj).trans (congrArg some h0)) (by rcases hz with rfl | rfl <;> rfl) (by rcases hz with rfl | rfl <;> rfl) (by rw [zfv_len]; exact (List.getElem?_eq_some_iff.mp hcs).1) d (fun H1 locs1 hP1 _ hS1 => ?_)
  rw [zwm_sto_fld (c := 0) (x := x) hL hcs (by simp only [zcd, zrv]; rw [pk_us])] at hP1
  exact kk H1 locs1 ls hP1 hS1 hl
theorem z_putb (C : zOK M K cc nL ret own Ts rm) {k ci : Nat} {cs : List Nat} (hk : k < M.2.1) (hL : M.1 k = .inr (ci, cs)) {Cn : String} {T : u_T} {n idx : Nat} (hc : vwCl[ci]? = some (Cn, T, n)) (j : Nat) (hj : j < n) (hcs : cs[j]? = some 1) (hin : ∀ w ∈ u_ws Cn T n, w ∈ Ts) (hlink : Cond.fieldLink own idx (T j).1 (T j).2.1 (T j).2.2.1 ∈ Ts) (ty0 : Nat → FieldType) (hty : ∀ k, k < n → parseFieldDescriptor (T k).2.2.1 = some (ty0 k)) (hnm : ∀ a, a < n → ∀ b, b < n → a ≠ b → (T a).2.1 ≠ (T b).2.1) (hfin : (T j).2.2.2 = false) {b : Nat} {Cr : String} (h0 : ty0 j = .object Cr) (hb2 : b < 2 ^ 31) (d : decode cc pc = .ok (.putfield idx, 3)) (kk : zGo M K (sto σ k j (nI b)) lv (pc + 3) st) : zGo M K σ lv pc (.ref ((zw K).2.1 b) :: .ref ((zw K).2.1 k) :: st) := by
  obtain ⟨⟨p, l, e, R, s⟩, ⟨m, args, below, meth, c⟩, ⟨Q, cA, ad, D, A⟩, nL', kc0, ks0⟩ := K
  obtain ⟨hx, hb, hml, hr, hown, hts, hlk, hK, hD, hR, hnL, hXm, hXx, hkc, hks⟩ := C
  intro H locs ls hP hS hl
  refine va_put hx hb hts hin ty0 hty hnm hown hK hP (hD σ) hS k (zwm_obj hk hL) hc j hj (hts _ hlink) (fun _ h9 => h9) hfin (ty := .object Cr) ((hty j hj).trans (congrArg some h0)) rfl rfl (by rw [zfv_len]; exact (List.getElem?_eq_some_iff.mp hcs).1) d (fun H1 locs1 hP1 _ hS1 => ?_)
  rw [zwm_sto_fld (c := 1) (x := nI b) hL hcs (by simp only [zcd, zrv]; rw [pk_us, if_neg (nI_pos hb2), nI_clamp hb2]; rfl)] at hP1
  exact kk H1 locs1 ls hP1 hS1 hl
theorem z_iald (C : zOK M K cc nL ret own Ts rm) {k n : Nat} (hk : k < M.2.1) (hL : M.1 k = .inl (0, n)) {i : Int32} (hi : zin i n = true) (d : decode cc pc = .ok (.iaload, 1)) (kk : zGo M K σ lv (pc + 1) (.int (σ k i.toNatClampNeg) :: st)) : zGo M K σ lv pc (.int i :: .ref ((zw K).2.1 k) :: st) := by
  obtain ⟨⟨p, l, e, R, s⟩, ⟨m, args, below, meth, c⟩, ⟨Q, cA, ad, D, A⟩, nL', kc0, ks0⟩ := K
  obtain ⟨hx, hb, hml, hr, hown, hts, hlk, hK, hD, hR, hnL, hXm, hXx, hkc, hks⟩ := C
  intro H locs ls hP hS hl
  exact va_iald hx hb hK hP k 0 (zwm_arr hk hL) rfl (zin_vp hi) d (kk H locs ls hP hS hl)
theorem z_zald (C : zOK M K cc nL ret own Ts rm) {k n : Nat} (hk : k < M.2.1) (hL : M.1 k = .inl (1, n)) {i : Int32} (hi : zin i n = true) (d : decode cc pc = .ok (.baload, 1)) (kk : zGo M K σ lv (pc + 1) (.int (σ k i.toNatClampNeg) :: st)) : zGo M K σ lv pc (.int i :: .ref ((zw K).2.1 k) :: st) := by
  obtain ⟨⟨p, l, e, R, s⟩, ⟨m, args, below, meth, c⟩, ⟨Q, cA, ad, D, A⟩, nL', kc0, ks0⟩ := K
  obtain ⟨hx, hb, hml, hr, hown, hts, hlk, hK, hD, hR, hnL, hXm, hXx, hkc, hks⟩ := C
  intro H locs ls hP hS hl
  exact va_zald hx hb hK hP k 1 (zwm_arr hk hL) rfl (zin_vp hi) d (kk H locs ls hP hS hl)
theorem z_bald (C : zOK M K cc nL ret own Ts rm) {k n : Nat} (hk : k < M.2.1) (hL : M.1 k = .inl (2, n)) {i : Int32} (hi : zin i n = true) (d : decode cc pc = .ok (.baload, 1)) (kk : zGo M K σ lv (pc + 1) (.int (σ k i.toNatClampNeg) :: st)) : zGo M K σ lv pc (.int i :: .ref ((zw K).2.1 k) :: st) := by
  obtain ⟨⟨p, l, e, R, s⟩, ⟨m, args, below, meth, c⟩, ⟨Q, cA, ad, D, A⟩, nL', kc0, ks0⟩ := K
  obtain ⟨hx, hb, hml, hr, hown, hts, hlk, hK, hD, hR, hnL, hXm, hXx, hkc, hks⟩ := C
  intro H locs ls hP hS hl
  exact va_bald hx hb hK hP k 2 (zwm_arr hk hL) rfl (zin_vp hi) d (kk H locs ls hP hS hl)
theorem z_iast (C : zOK M K cc nL ret own Ts rm) {k n : Nat} (hk : k < M.2.1) (hL : M.1 k = .inl (0, n)) {i : Int32} {x : Int32} (hi : zin i n = true) (d : decode cc pc = .ok (.iastore, 1)) (kk : zGo M K (sto σ k i.toNatClampNeg x) lv (pc + 1) st) : zGo M K σ lv pc (.int x :: .int i :: .ref ((zw K).2.1 k) :: st) := by
  obtain ⟨⟨p, l, e, R, s⟩, ⟨m, args, below, meth, c⟩, ⟨Q, cA, ad, D, A⟩, nL', kc0, ks0⟩ := K
  obtain ⟨hx, hb, hml, hr, hown, hts, hlk, hK, hD, hR, hnL, hXm, hXx, hkc, hks⟩ := C
  intro H locs ls hP hS hl
  refine va_iast hx hb hK hP (hD σ) hS k 0 (zwm_arr hk hL) rfl (zin_vp hi) d (fun H1 locs1 hP1 _ hS1 => ?_)
  rw [zwm_sto_arr hL] at hP1
  exact kk H1 locs1 ls hP1 hS1 hl
theorem z_zast (C : zOK M K cc nL ret own Ts rm) {k n : Nat} (hk : k < M.2.1) (hL : M.1 k = .inl (1, n)) {i : Int32} {x : Int32} (hi : zin i n = true) (d : decode cc pc = .ok (.bastore, 1)) (kk : zGo M K (sto σ k i.toNatClampNeg (vp_nar .boolean x)) lv (pc + 1) st) : zGo M K σ lv pc (.int x :: .int i :: .ref ((zw K).2.1 k) :: st) := by
  obtain ⟨⟨p, l, e, R, s⟩, ⟨m, args, below, meth, c⟩, ⟨Q, cA, ad, D, A⟩, nL', kc0, ks0⟩ := K
  obtain ⟨hx, hb, hml, hr, hown, hts, hlk, hK, hD, hR, hnL, hXm, hXx, hkc, hks⟩ := C
  intro H locs ls hP hS hl
  refine va_zast hx hb hK hP (hD σ) hS k 1 (zwm_arr hk hL) rfl (zin_vp hi) d (fun H1 locs1 hP1 _ hS1 => ?_)
  rw [zwm_sto_arr hL] at hP1
  exact kk H1 locs1 ls hP1 hS1 hl
theorem z_bast (C : zOK M K cc nL ret own Ts rm) {k n : Nat} (hk : k < M.2.1) (hL : M.1 k = .inl (2, n)) {i : Int32} {x : Int32} (hi : zin i n = true) (d : decode cc pc = .ok (.bastore, 1)) (kk : zGo M K (sto σ k i.toNatClampNeg (vp_nar .byte x)) lv (pc + 1) st) : zGo M K σ lv pc (.int x :: .int i :: .ref ((zw K).2.1 k) :: st) := by
  obtain ⟨⟨p, l, e, R, s⟩, ⟨m, args, below, meth, c⟩, ⟨Q, cA, ad, D, A⟩, nL', kc0, ks0⟩ := K
  obtain ⟨hx, hb, hml, hr, hown, hts, hlk, hK, hD, hR, hnL, hXm, hXx, hkc, hks⟩ := C
  intro H locs ls hP hS hl
  refine va_bast hx hb hK hP (hD σ) hS k 2 (zwm_arr hk hL) rfl (zin_vp hi) d (fun H1 locs1 hP1 _ hS1 => ?_)
  rw [zwm_sto_arr hL] at hP1
  exact kk H1 locs1 ls hP1 hS1 hl
theorem z_alen (C : zOK M K cc nL ret own Ts rm) {k n t : Nat} (hk : k < M.2.1) (hL : M.1 k = .inl (t, n)) {ty : FieldType} (ht : ∀ cA : Nat → ClassId, (zty cA)[t]? = some (cA t, ty)) {v : Int32} (hv : Int32.ofNat n = v) (d : decode cc pc = .ok (.arraylength, 1)) (kk : zGo M K σ lv (pc + 1) (.int v :: st)) : zGo M K σ lv pc (.ref ((zw K).2.1 k) :: st) := by
  obtain ⟨⟨p, l, e, R, s⟩, ⟨m, args, below, meth, c⟩, ⟨Q, cA, ad, D, A⟩, nL', kc0, ks0⟩ := K
  obtain ⟨hx, hb, hml, hr, hown, hts, hlk, hK, hD, hR, hnL, hXm, hXx, hkc, hks⟩ := C
  intro H locs ls hP hS hl
  exact va_alen hx hb hK hP k t (zwm_arr hk hL) (ht cA) hv d (kk H locs ls hP hS hl)
theorem z_cVi (C : zOK M K cc nL ret own Ts rm) {y : MethodName} {ws ws' : List Cond} {rmc : Room} {bytes : ByteArray} {maxL idx : Nat} {retc : Option FieldType} {Cn : String} {n k ci : Nat} {cs : List Nat} {q : vw_C} {as stk : List Value} {σ' : Mem} {r : Int32} (hM : zCi M (zl K) (zw K) y ws rmc (.ref ((zw K).2.1 k) :: as) σ σ' r) (hw : ws = .code y bytes maxL retc :: ws') (hG : GoodIn Ts (wsV own idx Cn y ws)) (hrc : rmc.cells = 0) (hrs : rmc.slots = 0) (hd : y.cls = Cn ∧ y.cls ≠ "java/lang/invoke/MethodHandle" ∧ y.cls ≠ "java/lang/invoke/VarHandle" ∧ (parseMethodDescriptor y.desc).map (fun d => d.parameters.length) = some n) (hn : as.length = n) (hk : k < M.2.1) (hL : M.1 k = .inr (ci, cs)) (hc : vwCl[ci]? = some q) (hq : q.1 = Cn) (hRm : rmc.frames + 1 ≤ rm.frames ∧ 8 + (maxL + 11) + rmc.locals ≤ rm.locals) (hcat : (st.map fun v => v.category).sum ≤ 8) (d : decode cc pc = .ok (.invokevirtual idx, 3)) (hst : stk = as.reverse ++ .ref ((zw K).2.1 k) :: st) (kk : zGo M K σ' lv (pc + 3) (.int r :: st)) : zGo M K σ lv pc stk := by
  obtain ⟨⟨p, l, e, R, s⟩, ⟨m, args, below, meth, c⟩, ⟨Q, cA, ad, D, A⟩, nL', kc0, ks0⟩ := K
  obtain ⟨hx, hb, hml, hr, hown, hts, hlk, hK, hD, hR, hnL, hXm, hXx, hkc, hks⟩ := C
  intro H locs ls hP hS hl
  subst hnL; subst hst; subst hR
  refine va_calli (va_runV (As := as) (rest := st) ⟨hx, hb, hml, hown, hts⟩ hM (cwV n hts hG hw hrc hrs hd hRm) ⟨fun a U g mk q => ⟨q.1, q.2.1, va_K.moved (u := U) (U := U.calling g mk a) (Vm.Alike.refl U.vm) q.2.2.1, q.2.2.2.1, hXm.2 ad A U g mk a q.2.2.2.2⟩, ?_, fun U hU hW => ⟨rfl, by rw [hU]; exact hP, va_K.moved hW.alike hK, hD, hXm.1 ad A s U hXx hW (by rw [hU]; exact hS.1) (fun q h1 h2 => by rw [hU]; exact hS.2.1 q h1 h2)⟩⟩ rfl hn hl.1 rfl (lv_room hcat) d ⟨hkc, hks⟩) hS (fun q _ h => h) (fun q h => h) (fun r1 u t H1 locs1 ht hvm hw1 hB hz1 hk1 hS1 => ?_)
  · have := va_recv hK hP hc (zwm_obj hk hL)
    rwa [hq] at this
  · obtain ⟨rfl, rfl⟩ := hw1
    have hP1 := hB.1
    rw [ht] at hP1
    exact kk H1 locs1 ls hP1 hS1 hl
theorem z_cSi (C : zOK M K cc nL ret own Ts rm) {y : MethodName} {ws ws' : List Cond} {rmc : Room} {bytes : ByteArray} {maxL idx : Nat} {retc : Option FieldType} {n : Nat} {as stk : List Value} {σ' : Mem} {r : Int32} (hM : zCi M (zl K) (zw K) y ws rmc as σ σ' r) (hw : ws = .code y bytes maxL retc :: ws') (hG : GoodIn Ts (va_wsS own idx y ws)) (hrc : rmc.cells = 0) (hrs : rmc.slots = 0) (hd : y.cls ≠ "java/lang/invoke/MethodHandle" ∧ y.cls ≠ "java/lang/invoke/VarHandle" ∧ (parseMethodDescriptor y.desc).map (fun d => d.parameters.length) = some n) (hn : as.length = n) (hRm : rmc.frames + 1 ≤ rm.frames ∧ 8 + (maxL + 11) + rmc.locals ≤ rm.locals) (hcat : (st.map fun v => v.category).sum ≤ 8) (d : decode cc pc = .ok (.invokestatic idx, 3)) (hst : stk = as.reverse ++ st) (kk : zGo M K σ' lv (pc + 3) (.int r :: st)) : zGo M K σ lv pc stk := by
  obtain ⟨⟨p, l, e, R, s⟩, ⟨m, args, below, meth, c⟩, ⟨Q, cA, ad, D, A⟩, nL', kc0, ks0⟩ := K
  obtain ⟨hx, hb, hml, hr, hown, hts, hlk, hK, hD, hR, hnL, hXm, hXx, hkc, hks⟩ := C
  intro H locs ls hP hS hl
  subst hnL; subst hst; subst hR
  refine va_calli (va_runS (As := as) (rest := st) ⟨hx, hb, hml, hown, hts⟩ hM (va_cwS n hts hG hw hrc hrs hd hRm) ⟨fun a U g mk q => ⟨q.1, q.2.1, va_K.moved (u := U) (U := U.calling g mk a) (Vm.Alike.refl U.vm) q.2.2.1, q.2.2.2.1, hXm.2 ad A U g mk a q.2.2.2.2⟩, fun U hU hW => ⟨rfl, by rw [hU]; exact hP, va_K.moved hW.alike hK, hD, hXm.1 ad A s U hXx hW (by rw [hU]; exact hS.1) (fun q h1 h2 => by rw [hU]; exact hS.2.1 q h1 h2)⟩⟩ rfl hn hl.1 rfl (lv_room hcat) d ⟨hkc, hks⟩) hS (fun q _ h => h) (fun q h => h) (fun r1 u t H1 locs1 ht hvm hw1 hB hz1 hk1 hS1 => ?_)
  obtain ⟨rfl, rfl⟩ := hw1
  have hP1 := hB.1
  rw [ht] at hP1
  exact kk H1 locs1 ls hP1 hS1 hl
theorem z_cVv (C : zOK M K cc nL ret own Ts rm) {y : MethodName} {ws ws' : List Cond} {rmc : Room} {bytes : ByteArray} {maxL idx : Nat} {retc : Option FieldType} {Cn : String} {n k ci : Nat} {cs : List Nat} {q : vw_C} {as stk : List Value} {σ' : Mem} (hM : zCv M (zl K) (zw K) y ws rmc (.ref ((zw K).2.1 k) :: as) σ σ' ) (hw : ws = .code y bytes maxL retc :: ws') (hG : GoodIn Ts (wsV own idx Cn y ws)) (hrc : rmc.cells = 0) (hrs : rmc.slots = 0) (hd : y.cls = Cn ∧ y.cls ≠ "java/lang/invoke/MethodHandle" ∧ y.cls ≠ "java/lang/invoke/VarHandle" ∧ (parseMethodDescriptor y.desc).map (fun d => d.parameters.length) = some n) (hn : as.length = n) (hk : k < M.2.1) (hL : M.1 k = .inr (ci, cs)) (hc : vwCl[ci]? = some q) (hq : q.1 = Cn) (hRm : rmc.frames + 1 ≤ rm.frames ∧ 8 + (maxL + 11) + rmc.locals ≤ rm.locals) (hcat : (st.map fun v => v.category).sum ≤ 8) (d : decode cc pc = .ok (.invokevirtual idx, 3)) (hst : stk = as.reverse ++ .ref ((zw K).2.1 k) :: st) (kk : zGo M K σ' lv (pc + 3) (st)) : zGo M K σ lv pc stk := by
  obtain ⟨⟨p, l, e, R, s⟩, ⟨m, args, below, meth, c⟩, ⟨Q, cA, ad, D, A⟩, nL', kc0, ks0⟩ := K
  obtain ⟨hx, hb, hml, hr, hown, hts, hlk, hK, hD, hR, hnL, hXm, hXx, hkc, hks⟩ := C
  intro H locs ls hP hS hl
  subst hnL; subst hst; subst hR
  refine va_callv (va_runV (As := as) (rest := st) ⟨hx, hb, hml, hown, hts⟩ hM (cwV n hts hG hw hrc hrs hd hRm) ⟨fun a U g mk q => ⟨q.1, q.2.1, va_K.moved (u := U) (U := U.calling g mk a) (Vm.Alike.refl U.vm) q.2.2.1, q.2.2.2.1, hXm.2 ad A U g mk a q.2.2.2.2⟩, ?_, fun U hU hW => ⟨rfl, by rw [hU]; exact hP, va_K.moved hW.alike hK, hD, hXm.1 ad A s U hXx hW (by rw [hU]; exact hS.1) (fun q h1 h2 => by rw [hU]; exact hS.2.1 q h1 h2)⟩⟩ rfl hn hl.1 rfl (lv_room hcat) d ⟨hkc, hks⟩) hS (fun q _ h => h) (fun q h => h) (fun u t H1 locs1 ht hvm hw1 hB hz1 hk1 hS1 => ?_)
  · have := va_recv hK hP hc (zwm_obj hk hL)
    rwa [hq] at this
  · cases hw1
    have hP1 := hB.1
    rw [ht] at hP1
    exact kk H1 locs1 ls hP1 hS1 hl
theorem z_cSv (C : zOK M K cc nL ret own Ts rm) {y : MethodName} {ws ws' : List Cond} {rmc : Room} {bytes : ByteArray} {maxL idx : Nat} {retc : Option FieldType} {n : Nat} {as stk : List Value} {σ' : Mem} (hM : zCv M (zl K) (zw K) y ws rmc as σ σ' ) (hw : ws = .code y bytes maxL retc :: ws') (hG : GoodIn Ts (va_wsS own idx y ws)) (hrc : rmc.cells = 0) (hrs : rmc.slots = 0) (hd : y.cls ≠ "java/lang/invoke/MethodHandle" ∧ y.cls ≠ "java/lang/invoke/VarHandle" ∧ (parseMethodDescriptor y.desc).map (fun d => d.parameters.length) = some n) (hn : as.length = n) (hRm : rmc.frames + 1 ≤ rm.frames ∧ 8 + (maxL + 11) + rmc.locals ≤ rm.locals) (hcat : (st.map fun v => v.category).sum ≤ 8) (d : decode cc pc = .ok (.invokestatic idx, 3)) (hst : stk = as.reverse ++ st) (kk : zGo M K σ' lv (pc + 3) (st)) : zGo M K σ lv pc stk := by
  obtain ⟨⟨p, l, e, R, s⟩, ⟨m, args, below, meth, c⟩, ⟨Q, cA, ad, D, A⟩, nL', kc0, ks0⟩ := K
  obtain ⟨hx, hb, hml, hr, hown, hts, hlk, hK, hD, hR, hnL, hXm, hXx, hkc, hks⟩ := C
  intro H locs ls hP hS hl
  subst hnL; subst hst; subst hR
  refine va_callv (va_runS (As := as) (rest := st) ⟨hx, hb, hml, hown, hts⟩ hM (va_cwS n hts hG hw hrc hrs hd hRm) ⟨fun a U g mk q => ⟨q.1, q.2.1, va_K.moved (u := U) (U := U.calling g mk a) (Vm.Alike.refl U.vm) q.2.2.1, q.2.2.2.1, hXm.2 ad A U g mk a q.2.2.2.2⟩, fun U hU hW => ⟨rfl, by rw [hU]; exact hP, va_K.moved hW.alike hK, hD, hXm.1 ad A s U hXx hW (by rw [hU]; exact hS.1) (fun q h1 h2 => by rw [hU]; exact hS.2.1 q h1 h2)⟩⟩ rfl hn hl.1 rfl (lv_room hcat) d ⟨hkc, hks⟩) hS (fun q _ h => h) (fun q h => h) (fun u t H1 locs1 ht hvm hw1 hB hz1 hk1 hS1 => ?_)
  cases hw1
  have hP1 := hB.1
  rw [ht] at hP1
  exact kk H1 locs1 ls hP1 hS1 hl
theorem z_sub {lv2 : List (Nat × Value)} (ks : List Nat) (h : lv_pick lv ks = lv2) (kk : zGo M K σ lv2 pc st) : zGo M K σ lv pc st := by
  obtain ⟨⟨p, l, e, R, s⟩, ⟨m, args, below, meth, c⟩, ⟨Q, cA, ad, D, A⟩, nL', kc0, ks0⟩ := K
  exact fun H locs ls hP hS hl => kk H locs ls hP hS (lv_sub hl ks h)
theorem z_topi {x : Int32} (kk : ∀ y : Int32, y = x → zGo M K σ lv pc (.int y :: st)) : zGo M K σ lv pc (.int x :: st) := kk x rfl
theorem z_nm (kk : ∀ τ : Mem, τ = σ → zGo M K τ lv pc st) : zGo M K σ lv pc st := kk σ rfl
theorem z_lkv (C : zOK M K cc nL ret own Ts rm) {dflt : Int} {ps : Array (Int × Int)} {len : Nat} {x v : Int32} {off : Int} {tgt : Nat} (hc : x = v) (d : decode cc pc = .ok (.lookupswitch dflt ps, len)) (hp : (ps.toList.zip (ps.toList.drop 1)).all (fun (a, next) => a.1 < next.1) = true) (ho : Op.lookupswitch.offset ps.toList dflt v.toInt = off) (ht : (pc : Int) + off = (tgt : Int)) (kk : zGo M K σ lv tgt st) : zGo M K σ lv pc (.int x :: st) := by
  obtain ⟨⟨p, l, e, R, s⟩, ⟨m, args, below, meth, c⟩, ⟨Q, cA, ad, D, A⟩, nL', kc0, ks0⟩ := K
  obtain ⟨hx, hb, hml, hr, hown, hts, hlk, hK, hD, hR, hnL, hXm, hXx, hkc, hks⟩ := C
  intro H locs ls hP hS hl
  subst hc
  exact lv_lookup hx hb d hp ho ht (kk H locs ls hP hS hl)
end ZROWS
end
section
/-! the two modules -/
def LaX : Lay := fun k => match k with
  | 0 => .inr (6, [3, 9, 11, 41, 1, 1, 0])
  | 1 => .inr (1, [0, 0, 4, 5, 6, 7, 8])
  | 2 => .inl (1, 10)
  | 3 => .inl (0, 10)
  | 4 => .inl (0, 10)
  | 5 => .inl (0, 50)
  | 6 => .inl (0, 50)
  | 7 => .inr (3, [10, 0])
  | 8 => .inl (2, 400)
  | 9 => .inr (4, [12, 1, 0, 0, 0, 0, 0, 0, 0, 0])
  | 10 => .inr (5, [9, 0, 0, 0, 0])
  | 11 => .inr (0, [0, 0, 0, 14, 15, 16, 17, 18, 19, 20, 21, 22, 23, 24, 25, 26])
  | 12 => .inl (0, 6)
  | 13 => .inl (0, 6)
  | 14 => .inl (1, 6)
  | 15 => .inl (0, 6)
  | 16 => .inl (0, 6)
  | 17 => .inl (0, 6)
  | 18 => .inl (0, 7)
  | 19 => .inl (0, 146)
  | 20 => .inl (0, 36)
  | 21 => .inl (0, 36)
  | 22 => .inl (0, 36)
  | 23 => .inl (0, 36)
  | 24 => .inl (0, 36)
  | 25 => .inr (0, [0, 0, 0, 28, 29, 30, 31, 32, 33, 34, 35, 36, 37, 38, 39, 40])
  | 26 => .inl (0, 6)
  | 27 => .inl (0, 6)
  | 28 => .inl (1, 6)
  | 29 => .inl (0, 6)
  | 30 => .inl (0, 6)
  | 31 => .inl (0, 6)
  | 32 => .inl (0, 7)
  | 33 => .inl (0, 146)
  | 34 => .inl (0, 36)
  | 35 => .inl (0, 36)
  | 36 => .inl (0, 36)
  | 37 => .inl (0, 36)
  | 38 => .inl (0, 36)
  | 39 => .inr (2, [3, 1, 42, 43, 0, 0, 44, 45, 0, 0])
  | 40 => .inl (0, 6)
  | 41 => .inl (0, 6)
  | 42 => .inl (0, 5)
  | 43 => .inl (0, 6)
  | _ => .inl (0, 0)
def LaM : Lay := fun k => match k with
  | 0 => .inr (7, [0, 3, 4, 5, 6, 7, 0, 0, 8, 9, 10, 11, 12, 13, 14, 15, 16, 17, 18, 19, 20, 0, 21, 22, 23, 24, 25, 26, 27, 28, 29, 30, 31, 32, 33, 34, 35, 0, 0, 0, 0, 0, 0, 0, 0, 36, 37, 38, 39, 40, 41, 42, 43, 0, 0, 44, 45])
  | 1 => .inl (1, 10)
  | 2 => .inl (0, 10)
  | 3 => .inl (0, 10)
  | 4 => .inl (0, 50)
  | 5 => .inl (0, 50)
  | 6 => .inl (0, 6)
  | 7 => .inl (1, 6)
  | 8 => .inl (0, 6)
  | 9 => .inl (0, 36)
  | 10 => .inl (0, 36)
  | 11 => .inl (0, 36)
  | 12 => .inl (0, 36)
  | 13 => .inl (0, 6)
  | 14 => .inl (0, 960)
  | 15 => .inl (0, 960)
  | 16 => .inl (0, 960)
  | 17 => .inl (0, 960)
  | 18 => .inl (0, 960)
  | 19 => .inl (0, 6)
  | 20 => .inl (1, 6)
  | 21 => .inl (0, 6)
  | 22 => .inl (0, 36)
  | 23 => .inl (0, 36)
  | 24 => .inl (0, 36)
  | 25 => .inl (0, 36)
  | 26 => .inl (0, 36)
  | 27 => .inl (0, 6)
  | 28 => .inl (0, 960)
  | 29 => .inl (0, 960)
  | 30 => .inl (0, 960)
  | 31 => .inl (0, 960)
  | 32 => .inl (0, 960)
  | 33 => .inl (0, 400)
  | 34 => .inl (0, 8)
  | 35 => .inl (0, 8)
  | 36 => .inl (1, 36)
  | 37 => .inl (1, 60)
  | 38 => .inl (1, 60)
  | 39 => .inl (0, 5)
  | 40 => .inl (0, 160)
  | 41 => .inl (0, 6)
  | 42 => .inl (0, 5)
  | 43 => .inl (0, 5)
  | _ => .inl (0, 0)
def isb (b : Nat) : Prop := b = 11 ∨ b = 25
theorem isb_lt {b : Nat} (h : isb b) : b < 2 ^ 31 := by rcases h with rfl | rfl <;> exact Nat.le_of_ble_eq_true rfl
def istr (b : Nat) : Prop := b = 40 ∨ b = 41
theorem isb_L0 {b : Nat} (h : isb b) : LaX b = .inr (0, [0, 0, 0, b + 1 + 2, b + 2 + 2, b + 3 + 2, b + 4 + 2, b + 5 + 2, b + 6 + 2, b + 7 + 2, b + 8 + 2, b + 9 + 2, b + 10 + 2, b + 11 + 2, b + 12 + 2, b + 13 + 2]) := by rcases h with rfl | rfl <;> rfl
theorem isb_k0 {b : Nat} (h : isb b) : b < 44 := by rcases h with rfl | rfl <;> exact Nat.le_of_ble_eq_true rfl
theorem isb_L1 {b : Nat} (h : isb b) : LaX (b + 1) = .inl (0, 6) := by rcases h with rfl | rfl <;> rfl
theorem isb_k1 {b : Nat} (h : isb b) : b + 1 < 44 := by rcases h with rfl | rfl <;> exact Nat.le_of_ble_eq_true rfl
theorem isb_L2 {b : Nat} (h : isb b) : LaX (b + 2) = .inl (0, 6) := by rcases h with rfl | rfl <;> rfl
theorem isb_k2 {b : Nat} (h : isb b) : b + 2 < 44 := by rcases h with rfl | rfl <;> exact Nat.le_of_ble_eq_true rfl
theorem isb_L3 {b : Nat} (h : isb b) : LaX (b + 3) = .inl (1, 6) := by rcases h with rfl | rfl <;> rfl
theorem isb_k3 {b : Nat} (h : isb b) : b + 3 < 44 := by rcases h with rfl | rfl <;> exact Nat.le_of_ble_eq_true rfl
theorem isb_L4 {b : Nat} (h : isb b) : LaX (b + 4) = .inl (0, 6) := by rcases h with rfl | rfl <;> rfl
theorem isb_k4 {b : Nat} (h : isb b) : b + 4 < 44 := by rcases h with rfl | rfl <;> exact Nat.le_of_ble_eq_true rfl
theorem isb_L5 {b : Nat} (h : isb b) : LaX (b + 5) = .inl (0, 6) := by rcases h with rfl | rfl <;> rfl
theorem isb_k5 {b : Nat} (h : isb b) : b + 5 < 44 := by rcases h with rfl | rfl <;> exact Nat.le_of_ble_eq_true rfl
theorem isb_L6 {b : Nat} (h : isb b) : LaX (b + 6) = .inl (0, 6) := by rcases h with rfl | rfl <;> rfl
theorem isb_k6 {b : Nat} (h : isb b) : b + 6 < 44 := by rcases h with rfl | rfl <;> exact Nat.le_of_ble_eq_true rfl
theorem isb_L7 {b : Nat} (h : isb b) : LaX (b + 7) = .inl (0, 7) := by rcases h with rfl | rfl <;> rfl
theorem isb_k7 {b : Nat} (h : isb b) : b + 7 < 44 := by rcases h with rfl | rfl <;> exact Nat.le_of_ble_eq_true rfl
theorem isb_L8 {b : Nat} (h : isb b) : LaX (b + 8) = .inl (0, 146) := by rcases h with rfl | rfl <;> rfl
theorem isb_k8 {b : Nat} (h : isb b) : b + 8 < 44 := by rcases h with rfl | rfl <;> exact Nat.le_of_ble_eq_true rfl
theorem isb_L9 {b : Nat} (h : isb b) : LaX (b + 9) = .inl (0, 36) := by rcases h with rfl | rfl <;> rfl
theorem isb_k9 {b : Nat} (h : isb b) : b + 9 < 44 := by rcases h with rfl | rfl <;> exact Nat.le_of_ble_eq_true rfl
theorem isb_L10 {b : Nat} (h : isb b) : LaX (b + 10) = .inl (0, 36) := by rcases h with rfl | rfl <;> rfl
theorem isb_k10 {b : Nat} (h : isb b) : b + 10 < 44 := by rcases h with rfl | rfl <;> exact Nat.le_of_ble_eq_true rfl
theorem isb_L11 {b : Nat} (h : isb b) : LaX (b + 11) = .inl (0, 36) := by rcases h with rfl | rfl <;> rfl
theorem isb_k11 {b : Nat} (h : isb b) : b + 11 < 44 := by rcases h with rfl | rfl <;> exact Nat.le_of_ble_eq_true rfl
theorem isb_L12 {b : Nat} (h : isb b) : LaX (b + 12) = .inl (0, 36) := by rcases h with rfl | rfl <;> rfl
theorem isb_k12 {b : Nat} (h : isb b) : b + 12 < 44 := by rcases h with rfl | rfl <;> exact Nat.le_of_ble_eq_true rfl
theorem isb_L13 {b : Nat} (h : isb b) : LaX (b + 13) = .inl (0, 36) := by rcases h with rfl | rfl <;> rfl
theorem isb_k13 {b : Nat} (h : isb b) : b + 13 < 44 := by rcases h with rfl | rfl <;> exact Nat.le_of_ble_eq_true rfl
theorem istr_L {b : Nat} (h : istr b) : LaX b = .inl (0, 6) := by rcases h with rfl | rfl <;> rfl
theorem istr_k {b : Nat} (h : istr b) : b < 44 := by rcases h with rfl | rfl <;> exact Nat.le_of_ble_eq_true rfl
def zbk {α : Type} (x : Int32) (k : Nat → Option α) : Option α := if x = 11 then k 11 else if x = 25 then k 25 else none
theorem zbk_el {α : Type} {x : Int32} {k : Nat → Option α} {y : α} (h : zbk x k = some y) : ∃ b, isb b ∧ x = nI b ∧ k b = some y := by
  unfold zbk at h
  by_cases h1 : x = 11
  · rw [if_pos h1] at h; exact ⟨11, Or.inl rfl, h1, h⟩
  · rw [if_neg h1] at h
    by_cases h2 : x = 25
    · rw [if_pos h2] at h; exact ⟨25, Or.inr rfl, h2, h⟩
    · rw [if_neg h2] at h; cases h
def apt (i : Nat) : Int32 := ([(-1), 1431655765, 858993459, 286331153, 252645135, 84215045, 50529027, 16843009, 16711935, 5570645, 3342387, 1114129, 983055, 327685, 196611, 65537, 65535, 21845, 13107, 4369, 3855, 1285, 771, 257, 255, 85, 51, 17, 15, 5, 3, 1] : List Int32).getD i 0
/-- what is read beside the own cells: APART, the text "closed", two of the JDK's -/
def XX (ad : Nat → Nat) (A : Nat → Prop) (U : State) : Prop := va_Z "ShapeJudge$Judge" "APART" "[I" (.ref (ad 100)) A U U.heap ∧ va_T .int (ad 100) 32 (fun j => .int (apt j)) A U U.heap ∧ vk_R "ShapeJudge$Tokens" 47 "closed" (ad 101) U ∧ vk_S 1 [6] [[99, 108, 111, 115, 101, 100]] (fun _ => ad 101) (fun _ => ad 102) A U U.heap ∧ va_Z "java/lang/String" "COMPACT_STRINGS" "Z" (.int 1) A U U.heap ∧ va_Zq "jdk/internal/util/Preconditions" "SIOOBE_FORMATTER" "Ljava/util/function/BiFunction;" A U U.heap
def MX : ZM := (LaX, 44, XX)
def MM : ZM := (LaM, 44, fun _ _ _ => True)
theorem MM_ok : zXok MM := ⟨fun _ _ _ _ _ _ _ _ => trivial, fun _ _ _ _ _ _ _ => trivial⟩
theorem MX_ok : zXok MX := by
  refine ⟨fun ad A s U h hW hz hq => ?_, fun ad A U g mk a h => ?_⟩
  · obtain ⟨h1, h2, h3, h4, h5, h6⟩ := h
    exact ⟨(h1.moved hW.alike).kept hq, (h2.moved hW.alike).kept hq, h3.warm hW, (h4.moved hW.alike).kept hq, (h5.moved hW.alike).kept hq, (h6.moved hW.alike).kept hq⟩
  · obtain ⟨h1, h2, h3, h4, h5, h6⟩ := h
    have hv : U.vm.Alike (U.calling g mk a).vm := Vm.Alike.refl U.vm
    exact ⟨h1.moved hv, h2.moved hv, h3.same rfl, h4.moved hv, h5.moved hv, h6.moved hv⟩
end
section
/-! rows for what is read beside the own cells -/
def clo (i : Nat) : Int32 := ([99, 108, 111, 115, 101, 100] : List Int32).getD i 0
section ZXROWS
variable {K : ZK} {cc : ByteArray} {nL : Nat} {ret : Option FieldType} {own : String} {Ts : List Cond} {rm : Room} {σ : Mem} {lv : List (Nat × Value)} {pc : Nat} {st : List Value}
theorem z_gapt (C : zOK MX K cc nL ret own Ts rm) {i : Nat} (hlink : Cond.fieldLink own i "ShapeJudge$Judge" "APART" "[I" ∈ Ts) (d : decode cc pc = .ok (.getstatic i, 3)) (kk : zGo MX K σ lv (pc + 3) (.ref ((zw K).2.1 100) :: st)) : zGo MX K σ lv pc st := by
  obtain ⟨⟨p, l, e, R, s⟩, ⟨m, args, below, meth, c⟩, ⟨Q, cA, ad, D, A⟩, nL', kc0, ks0⟩ := K
  obtain ⟨hx, hb, hml, hr, hown, hts, hlk, hK, hD, hR, hnL, hXm, hXx, hkc, hks⟩ := C
  obtain ⟨hZ, hT, hvR, hvS, hZc, hZq⟩ := id hXx
  intro H locs ls hP hS hl
  exact va_gets hx hb hZ hS hown (hts _ hlink) (fun _ h9 => h9) d (kk H locs ls hP hS hl)
theorem z_aptl (C : zOK MX K cc nL ret own Ts rm) {i : Int32} (hi : zin i 32 = true) (d : decode cc pc = .ok (.iaload, 1)) (kk : zGo MX K σ lv (pc + 1) (.int (apt i.toNatClampNeg) :: st)) : zGo MX K σ lv pc (.int i :: .ref ((zw K).2.1 100) :: st) := by
  obtain ⟨⟨p, l, e, R, s⟩, ⟨m, args, below, meth, c⟩, ⟨Q, cA, ad, D, A⟩, nL', kc0, ks0⟩ := K
  obtain ⟨hx, hb, hml, hr, hown, hts, hlk, hK, hD, hR, hnL, hXm, hXx, hkc, hks⟩ := C
  obtain ⟨hZ, hT, hvR, hvS, hZc, hZq⟩ := id hXx
  intro H locs ls hP hS hl
  exact va_ti hx hb hT hS (zin_vp hi) rfl d (kk H locs ls hP hS hl)
theorem z_aptn (C : zOK MX K cc nL ret own Ts rm) (d : decode cc pc = .ok (.arraylength, 1)) (kk : zGo MX K σ lv (pc + 1) (.int 32 :: st)) : zGo MX K σ lv pc (.ref ((zw K).2.1 100) :: st) := by
  obtain ⟨⟨p, l, e, R, s⟩, ⟨m, args, below, meth, c⟩, ⟨Q, cA, ad, D, A⟩, nL', kc0, ks0⟩ := K
  obtain ⟨hx, hb, hml, hr, hown, hts, hlk, hK, hD, hR, hnL, hXm, hXx, hkc, hks⟩ := C
  obtain ⟨hZ, hT, hvR, hvS, hZc, hZq⟩ := id hXx
  intro H locs ls hP hS hl
  exact va_tlen hx hb hT hS rfl d (kk H locs ls hP hS hl)
theorem z_gcom (C : zOK MX K cc nL ret own Ts rm) {i : Nat} (hlink : Cond.fieldLink own i "java/lang/String" "COMPACT_STRINGS" "Z" ∈ Ts) (d : decode cc pc = .ok (.getstatic i, 3)) (kk : zGo MX K σ lv (pc + 3) (.int 1 :: st)) : zGo MX K σ lv pc st := by
  obtain ⟨⟨p, l, e, R, s⟩, ⟨m, args, below, meth, c⟩, ⟨Q, cA, ad, D, A⟩, nL', kc0, ks0⟩ := K
  obtain ⟨hx, hb, hml, hr, hown, hts, hlk, hK, hD, hR, hnL, hXm, hXx, hkc, hks⟩ := C
  obtain ⟨hZ, hT, hvR, hvS, hZc, hZq⟩ := id hXx
  intro H locs ls hP hS hl
  exact va_gets hx hb hZc hS hown (hts _ hlink) (fun _ h9 => h9) d (kk H locs ls hP hS hl)
theorem z_gfmt (C : zOK MX K cc nL ret own Ts rm) {i : Nat} (hlink : Cond.fieldLink own i "jdk/internal/util/Preconditions" "SIOOBE_FORMATTER" "Ljava/util/function/BiFunction;" ∈ Ts) (d : decode cc pc = .ok (.getstatic i, 3)) (kk : ∀ v : Value, (v = .null ∨ ∃ t : Nat, v = .ref t) → zGo MX K σ lv (pc + 3) (v :: st)) : zGo MX K σ lv pc st := by
  obtain ⟨⟨p, l, e, R, s⟩, ⟨m, args, below, meth, c⟩, ⟨Q, cA, ad, D, A⟩, nL', kc0, ks0⟩ := K
  obtain ⟨hx, hb, hml, hr, hown, hts, hlk, hK, hD, hR, hnL, hXm, hXx, hkc, hks⟩ := C
  obtain ⟨hZ, hT, hvR, hvS, hZc, hZq⟩ := id hXx
  intro H locs ls hP hS hl
  rcases hZq with h | ⟨t, h⟩
  · exact va_gets hx hb h hS hown (hts _ hlink) (fun _ h9 => h9) d (kk _ (Or.inl rfl) H locs ls hP hS hl)
  · exact va_gets hx hb h hS hown (hts _ hlink) (fun _ h9 => h9) d (kk _ (Or.inr ⟨t, rfl⟩) H locs ls hP hS hl)
theorem z_ldcs (C : zOK MX K cc nL ret own Ts rm) (ho : own = "ShapeJudge$Tokens") (d : decode cc pc = .ok (.ldc 47, 2)) (kk : zGo MX K σ lv (pc + 2) (.ref ((zw K).2.1 101) :: st)) : zGo MX K σ lv pc st := by
  obtain ⟨⟨p, l, e, R, s⟩, ⟨m, args, below, meth, c⟩, ⟨Q, cA, ad, D, A⟩, nL', kc0, ks0⟩ := K
  obtain ⟨hx, hb, hml, hr, hown, hts, hlk, hK, hD, hR, hnL, hXm, hXx, hkc, hks⟩ := C
  obtain ⟨hZ, hT, hvR, hvS, hZc, hZq⟩ := id hXx
  intro H locs ls hP hS hl
  subst ho
  exact va_ldcS hx hb hown hvR d (kk H locs ls hP hS hl)
theorem z_strv (C : zOK MX K cc nL ret own Ts rm) {i : Nat} (hlink : Cond.fieldLink own i "java/lang/String" "value" "[B" ∈ Ts) (d : decode cc pc = .ok (.getfield i, 3)) (kk : zGo MX K σ lv (pc + 3) (.ref ((zw K).2.1 102) :: st)) : zGo MX K σ lv pc (.ref ((zw K).2.1 101) :: st) := by
  obtain ⟨⟨p, l, e, R, s⟩, ⟨m, args, below, meth, c⟩, ⟨Q, cA, ad, D, A⟩, nL', kc0, ks0⟩ := K
  obtain ⟨hx, hb, hml, hr, hown, hts, hlk, hK, hD, hR, hnL, hXm, hXx, hkc, hks⟩ := C
  obtain ⟨hZ, hT, hvR, hvS, hZc, hZq⟩ := id hXx
  intro H locs ls hP hS hl
  exact vk_getf hx hb (hvS.1 0 (by decide)).2.2.1 hS hown (hts _ hlink) (fun _ h9 => h9) d (kk H locs ls hP hS hl)
theorem z_strc (C : zOK MX K cc nL ret own Ts rm) {i : Nat} (hlink : Cond.fieldLink own i "java/lang/String" "coder" "B" ∈ Ts) (d : decode cc pc = .ok (.getfield i, 3)) (kk : zGo MX K σ lv (pc + 3) (.int 0 :: st)) : zGo MX K σ lv pc (.ref ((zw K).2.1 101) :: st) := by
  obtain ⟨⟨p, l, e, R, s⟩, ⟨m, args, below, meth, c⟩, ⟨Q, cA, ad, D, A⟩, nL', kc0, ks0⟩ := K
  obtain ⟨hx, hb, hml, hr, hown, hts, hlk, hK, hD, hR, hnL, hXm, hXx, hkc, hks⟩ := C
  obtain ⟨hZ, hT, hvR, hvS, hZc, hZq⟩ := id hXx
  intro H locs ls hP hS hl
  exact vk_getf hx hb (hvS.1 0 (by decide)).2.1 hS hown (hts _ hlink) (fun _ h9 => h9) d (kk H locs ls hP hS hl)
theorem z_strl (C : zOK MX K cc nL ret own Ts rm) {i : Int32} (hi : zin i 6 = true) (d : decode cc pc = .ok (.baload, 1)) (kk : zGo MX K σ lv (pc + 1) (.int (clo i.toNatClampNeg) :: st)) : zGo MX K σ lv pc (.int i :: .ref ((zw K).2.1 102) :: st) := by
  obtain ⟨⟨p, l, e, R, s⟩, ⟨m, args, below, meth, c⟩, ⟨Q, cA, ad, D, A⟩, nL', kc0, ks0⟩ := K
  obtain ⟨hx, hb, hml, hr, hown, hts, hlk, hK, hD, hR, hnL, hXm, hXx, hkc, hks⟩ := C
  obtain ⟨hZ, hT, hvR, hvS, hZc, hZq⟩ := id hXx
  intro H locs ls hP hS hl
  exact va_tb hx hb (hvS.1 0 (by decide)).2.2.2 hS (zin_vp hi) rfl d (kk H locs ls hP hS hl)
theorem z_strn (C : zOK MX K cc nL ret own Ts rm) (d : decode cc pc = .ok (.arraylength, 1)) (kk : zGo MX K σ lv (pc + 1) (.int 6 :: st)) : zGo MX K σ lv pc (.ref ((zw K).2.1 102) :: st) := by
  obtain ⟨⟨p, l, e, R, s⟩, ⟨m, args, below, meth, c⟩, ⟨Q, cA, ad, D, A⟩, nL', kc0, ks0⟩ := K
  obtain ⟨hx, hb, hml, hr, hown, hts, hlk, hK, hD, hR, hnL, hXm, hXx, hkc, hks⟩ := C
  obtain ⟨hZ, hT, hvR, hvS, hZc, hZq⟩ := id hXx
  intro H locs ls hP hS hl
  exact va_tlen hx hb (hvS.1 0 (by decide)).2.2.2 hS rfl d (kk H locs ls hP hS hl)
theorem z_i2c (C : zOK MX K cc nL ret own Ts rm) {x : Int32} (d : decode cc pc = .ok (.i2c, 1)) (kk : zGo MX K σ lv (pc + 1) (.int (x.toUInt32 % 65536).toInt32 :: st)) : zGo MX K σ lv pc (.int x :: st) := by
  obtain ⟨⟨p, l, e, R, s⟩, ⟨m, args, below, meth, c⟩, ⟨Q, cA, ad, D, A⟩, nL', kc0, ks0⟩ := K
  obtain ⟨hx, hb, hml, hr, hown, hts, hlk, hK, hD, hR, hnL, hXm, hXx, hkc, hks⟩ := C
  obtain ⟨hZ, hT, hvR, hvS, hZc, hZq⟩ := id hXx
  intro H locs ls hP hS hl
  exact lv_i2c hx hb d rfl (kk H locs ls hP hS hl)
theorem z_max (C : zOK MX K cc nL ret own Ts rm) {i : Nat} {x y : Int32} (h1 : Cond.methodLink own i Lib.Math.max.name ∈ Ts) (h2 : Cond.static Lib.Math.max.name ∈ Ts) (h3 : Cond.initialized "java/lang/Math" ∈ Ts) (h4 : Cond.code Lib.Math.max.name Lib.Math.max.code 2 (some .int) ∈ Ts) (hf : 1 ≤ rm.frames) (hlo : (st.map fun v => v.category).sum + 13 ≤ rm.locals) (d : decode cc pc = .ok (.invokestatic i, 3)) (kk : zGo MX K σ lv (pc + 3) (.int (if x < y then y else x) :: st)) : zGo MX K σ lv pc (.int y :: .int x :: st) := by
  obtain ⟨⟨p, l, e, R, s⟩, ⟨m, args, below, meth, c⟩, ⟨Q, cA, ad, D, A⟩, nL', kc0, ks0⟩ := K
  obtain ⟨hx, hb, hml, hr, hown, hts, hlk, hK, hD, hR, hnL, hXm, hXx, hkc, hks⟩ := C
  obtain ⟨hZ, hT, hvR, hvS, hZc, hZq⟩ := id hXx
  intro H locs ls hP hS hl
  subst hR; subst hnL
  exact va_mmax hx hb (hml.trans hl.1.symm) hown (hts _ h1) (hts _ h2) (hts _ h3) (hts _ h4) hf hlo hkc hks d (kk H locs ls hP hS hl)
theorem z_cVs (C : zOK MX K cc nL ret own Ts rm) {y : MethodName} {ws ws' : List Cond} {rmc : Room} {bytes : ByteArray} {maxL idx : Nat} {retc : Option FieldType} {Cn : String} {n : Nat} {as stk : List Value} {σ' : Mem} {r : Int32} (hM : zCi MX (zl K) (zw K) y ws rmc (.ref ((zw K).2.1 101) :: as) σ σ' r) (hw : ws = .code y bytes maxL retc :: ws') (hG : GoodIn Ts (wsV own idx Cn y ws)) (hrc : rmc.cells = 0) (hrs : rmc.slots = 0) (hd : y.cls = Cn ∧ y.cls ≠ "java/lang/invoke/MethodHandle" ∧ y.cls ≠ "java/lang/invoke/VarHandle" ∧ (parseMethodDescriptor y.desc).map (fun d => d.parameters.length) = some n) (hn : as.length = n) (hq : Cn = "java/lang/String") (hRm : rmc.frames + 1 ≤ rm.frames ∧ 8 + (maxL + 11) + rmc.locals ≤ rm.locals) (hcat : (st.map fun v => v.category).sum ≤ 8) (d : decode cc pc = .ok (.invokevirtual idx, 3)) (hst : stk = as.reverse ++ .ref ((zw K).2.1 101) :: st) (kk : zGo MX K σ' lv (pc + 3) (.int r :: st)) : zGo MX K σ lv pc stk := by
  obtain ⟨⟨p, l, e, R, s⟩, ⟨m, args, below, meth, c⟩, ⟨Q, cA, ad, D, A⟩, nL', kc0, ks0⟩ := K
  obtain ⟨hx, hb, hml, hr, hown, hts, hlk, hK, hD, hR, hnL, hXm, hXx, hkc, hks⟩ := C
  intro H locs ls hP hS hl
  subst hnL; subst hst; subst hR
  refine va_calli (va_runV (As := as) (rest := st) ⟨hx, hb, hml, hown, hts⟩ hM (cwV n hts hG hw hrc hrs hd hRm) ⟨fun a U g mk q => ⟨q.1, q.2.1, va_K.moved (u := U) (U := U.calling g mk a) (Vm.Alike.refl U.vm) q.2.2.1, q.2.2.2.1, hXm.2 ad A U g mk a q.2.2.2.2⟩, ?_, fun U hU hW => ⟨rfl, by rw [hU]; exact hP, va_K.moved hW.alike hK, hD, hXm.1 ad A s U hXx hW (by rw [hU]; exact hS.1) (fun q h1 h2 => by rw [hU]; exact hS.2.1 q h1 h2)⟩⟩ rfl hn hl.1 rfl (lv_room hcat) d ⟨hkc, hks⟩) hS (fun q _ h => h) (fun q h => h) (fun r1 u t H1 locs1 ht hvm hw1 hB hz1 hk1 hS1 => ?_)
  · subst hq
    exact vk_recv (N := 1) (i := 0) (adK := fun _ => ad 101) hXx.2.2.2.1 (by decide) hS
  · obtain ⟨rfl, rfl⟩ := hw1
    have hP1 := hB.1
    rw [ht] at hP1
    exact kk H1 locs1 ls hP1 hS1 hl
end ZXROWS
def zRt (ty : FieldType) (M : ZM) (K : ZK) (cc : ByteArray) (σ : Mem) (r : Int32) : Prop := ∀ (lv : List (Nat × Value)) (pc : Nat), decode cc pc = .ok (.ireturn, 1) → narrow ty (.int r) = .int r → zGo M K σ lv pc [.int r]
theorem z_met_t {M : ZM} {ty : FieldType} {l : Launch} {w : ZW} {y : MethodName} {ws ws' : List Cond} {rm : Room} {cc : ByteArray} {nL : Nat} {own : String} {as : List Value} {σ σ' : Mem} {r : Int32}
    (hXm : zXok M) (hy : plainName y.cls = true) (hw : ws = .code y cc nL (some ty) :: ws') (ho : y.cls = own)
    (hn : (lg_sl as).length ≤ nL)
    (body : ∀ K : ZK, zOK M K cc nL (some ty) own ws rm → zw K = w → zl K = l → zRt ty M K cc σ' r → zGo M K σ (lv_args 0 as) 0 []) : zCi M l w y ws rm as σ σ' r := by
  obtain ⟨cA, ad, D, A⟩ := w
  refine Met.ofW (cc := cc) (maxL := nL) (ret := some ty) hy hw ?_
  intro p e s m args below meth c s₁ B hml hv
  obtain ⟨rfl, hP, hK, hD, hXx⟩ := hv
  have hx := B.exec
  have hb := B.bytes
  have hr := B.returns
  have hts := atoms_spec (ws := ws) B.pre
  have hown : s.vm.findClass own = some m.cls := by rw [← ho]; exact findClass_of_methodNamed B.named
  have hlocks := B.notSynchronized
  have hl := lv_entry as (n := nL) hn
  rw [lg_entry_eq]
  generalize (lg_sl as ++ List.replicate (nL - (lg_sl as).length) Slot.unset).toArray = ls at hl ⊢
  have hfin : ∀ (H : Heap) (locs : List Loc), va_P D vwCl (zwm M.1 M.2.1 cA ad σ') H → va_S A s.heap H locs → ∀ t : State, t.heap = H → s.WarmedH t.vm → va_Qi (fun (r1 : Int32) (τ : Mem) => r1 = r ∧ τ = σ') (fun τ t => zPre M (cA, ad, D, A) τ t) A as.toArray s (.returned (some (.int r))) t := by
    intro H locs hP1 hS t ht hW
    refine ⟨⟨r, σ', rfl, ⟨rfl, rfl⟩, by rw [ht]; exact hP1, va_K.moved hW.alike hK, hD, ?_⟩, hS.F ht⟩
    exact hXm.1 ad A s t hXx hW (by rw [ht]; exact hS.1) (fun q h1 h2 => by rw [ht]; exact hS.2.1 q h1 h2)
  refine body ((p, l, e, (headSpec ws rm).room, s), (m, as.toArray, below, meth, c), (MQ below (va_Qi (fun (r1 : Int32) (τ : Mem) => r1 = r ∧ τ = σ') (fun τ t => zPre M (cA, ad, D, A) τ t) A) as.toArray s 0 0 A, cA, ad, D, A), nL, 0, 0) ⟨hx, hb, hml, hr, hown, hts, hlocks, hK, hD, rfl, rfl, hXm, hXx, Nat.zero_le _, Nat.zero_le _⟩ rfl rfl ?_ s.heap [] ls hP va_S.rf hl
  intro lv pc hdg hz H locs ls1 hP1 hS hl1
  exact W.zret hx hb hr hz (hfin H locs hP1 hS) hS.2.2 hdg hlocks
end
section
set_option maxRecDepth 100000 in
theorem daJ6_bitCount_0f7a4 : ∀ q ∈ ([(0, .iload_n 0, 1), (1, .iload_n 0, 1), (2, .iconst 1, 1), (3, .iushr, 1), (4, .ldc_w 265, 3), (7, .iand, 1), (8, .isub, 1), (9, .istore_n 0, 1), (10, .iload_n 0, 1), (11, .ldc_w 266, 3), (14, .iand, 1), (15, .iload_n 0, 1), (16, .iconst 2, 1), (17, .iushr, 1), (18, .ldc_w 266, 3), (21, .iand, 1), (22, .iadd, 1), (23, .istore_n 0, 1), (24, .iload_n 0, 1), (25, .iload_n 0, 1), (26, .iconst 4, 1), (27, .iushr, 1), (28, .iadd, 1), (29, .ldc_w 267, 3), (32, .iand, 1), (33, .istore_n 0, 1), (34, .iload_n 0, 1), (35, .iload_n 0, 1), (36, .bipush 8, 2), (38, .iushr, 1), (39, .iadd, 1), (40, .istore_n 0, 1), (41, .iload_n 0, 1), (42, .iload_n 0, 1), (43, .bipush 16, 2), (45, .iushr, 1), (46, .iadd, 1), (47, .istore_n 0, 1), (48, .iload_n 0, 1), (49, .bipush 63, 2), (51, .iand, 1), (52, .ireturn, 1)] : List (Nat × Instr × Nat)), decode cJ6_bitCount_0f7a4 q.1 = .ok q.2 := by decide +kernel
theorem dJ6_bitCount_0f7a4_0 : decode cJ6_bitCount_0f7a4 0 = .ok (.iload_n 0, 1) := daJ6_bitCount_0f7a4 (0, .iload_n 0, 1) (List.mem_of_getElem? (i := 0) rfl)
theorem dJ6_bitCount_0f7a4_1 : decode cJ6_bitCount_0f7a4 1 = .ok (.iload_n 0, 1) := daJ6_bitCount_0f7a4 (1, .iload_n 0, 1) (List.mem_of_getElem? (i := 1) rfl)
theorem dJ6_bitCount_0f7a4_2 : decode cJ6_bitCount_0f7a4 2 = .ok (.iconst 1, 1) := daJ6_bitCount_0f7a4 (2, .iconst 1, 1) (List.mem_of_getElem? (i := 2) rfl)
theorem dJ6_bitCount_0f7a4_3 : decode cJ6_bitCount_0f7a4 3 = .ok (.iushr, 1) := daJ6_bitCount_0f7a4 (3, .iushr, 1) (List.mem_of_getElem? (i := 3) rfl)
theorem dJ6_bitCount_0f7a4_4 : decode cJ6_bitCount_0f7a4 4 = .ok (.ldc_w 265, 3) := daJ6_bitCount_0f7a4 (4, .ldc_w 265, 3) (List.mem_of_getElem? (i := 4) rfl)
theorem dJ6_bitCount_0f7a4_7 : decode cJ6_bitCount_0f7a4 7 = .ok (.iand, 1) := daJ6_bitCount_0f7a4 (7, .iand, 1) (List.mem_of_getElem? (i := 5) rfl)
theorem dJ6_bitCount_0f7a4_8 : decode cJ6_bitCount_0f7a4 8 = .ok (.isub, 1) := daJ6_bitCount_0f7a4 (8, .isub, 1) (List.mem_of_getElem? (i := 6) rfl)
theorem dJ6_bitCount_0f7a4_9 : decode cJ6_bitCount_0f7a4 9 = .ok (.istore_n 0, 1) := daJ6_bitCount_0f7a4 (9, .istore_n 0, 1) (List.mem_of_getElem? (i := 7) rfl)
theorem dJ6_bitCount_0f7a4_10 : decode cJ6_bitCount_0f7a4 10 = .ok (.iload_n 0, 1) := daJ6_bitCount_0f7a4 (10, .iload_n 0, 1) (List.mem_of_getElem? (i := 8) rfl)
theorem dJ6_bitCount_0f7a4_11 : decode cJ6_bitCount_0f7a4 11 = .ok (.ldc_w 266, 3) := daJ6_bitCount_0f7a4 (11, .ldc_w 266, 3) (List.mem_of_getElem? (i := 9) rfl)
theorem dJ6_bitCount_0f7a4_14 : decode cJ6_bitCount_0f7a4 14 = .ok (.iand, 1) := daJ6_bitCount_0f7a4 (14, .iand, 1) (List.mem_of_getElem? (i := 10) rfl)
theorem dJ6_bitCount_0f7a4_15 : decode cJ6_bitCount_0f7a4 15 = .ok (.iload_n 0, 1) := daJ6_bitCount_0f7a4 (15, .iload_n 0, 1) (List.mem_of_getElem? (i := 11) rfl)
theorem dJ6_bitCount_0f7a4_16 : decode cJ6_bitCount_0f7a4 16 = .ok (.iconst 2, 1) := daJ6_bitCount_0f7a4 (16, .iconst 2, 1) (List.mem_of_getElem? (i := 12) rfl)
theorem dJ6_bitCount_0f7a4_17 : decode cJ6_bitCount_0f7a4 17 = .ok (.iushr, 1) := daJ6_bitCount_0f7a4 (17, .iushr, 1) (List.mem_of_getElem? (i := 13) rfl)
theorem dJ6_bitCount_0f7a4_18 : decode cJ6_bitCount_0f7a4 18 = .ok (.ldc_w 266, 3) := daJ6_bitCount_0f7a4 (18, .ldc_w 266, 3) (List.mem_of_getElem? (i := 14) rfl)
theorem dJ6_bitCount_0f7a4_21 : decode cJ6_bitCount_0f7a4 21 = .ok (.iand, 1) := daJ6_bitCount_0f7a4 (21, .iand, 1) (List.mem_of_getElem? (i := 15) rfl)
theorem dJ6_bitCount_0f7a4_22 : decode cJ6_bitCount_0f7a4 22 = .ok (.iadd, 1) := daJ6_bitCount_0f7a4 (22, .iadd, 1) (List.mem_of_getElem? (i := 16) rfl)
theorem dJ6_bitCount_0f7a4_23 : decode cJ6_bitCount_0f7a4 23 = .ok (.istore_n 0, 1) := daJ6_bitCount_0f7a4 (23, .istore_n 0, 1) (List.mem_of_getElem? (i := 17) rfl)
theorem dJ6_bitCount_0f7a4_24 : decode cJ6_bitCount_0f7a4 24 = .ok (.iload_n 0, 1) := daJ6_bitCount_0f7a4 (24, .iload_n 0, 1) (List.mem_of_getElem? (i := 18) rfl)
theorem dJ6_bitCount_0f7a4_25 : decode cJ6_bitCount_0f7a4 25 = .ok (.iload_n 0, 1) := daJ6_bitCount_0f7a4 (25, .iload_n 0, 1) (List.mem_of_getElem? (i := 19) rfl)
theorem dJ6_bitCount_0f7a4_26 : decode cJ6_bitCount_0f7a4 26 = .ok (.iconst 4, 1) := daJ6_bitCount_0f7a4 (26, .iconst 4, 1) (List.mem_of_getElem? (i := 20) rfl)
theorem dJ6_bitCount_0f7a4_27 : decode cJ6_bitCount_0f7a4 27 = .ok (.iushr, 1) := daJ6_bitCount_0f7a4 (27, .iushr, 1) (List.mem_of_getElem? (i := 21) rfl)
theorem dJ6_bitCount_0f7a4_28 : decode cJ6_bitCount_0f7a4 28 = .ok (.iadd, 1) := daJ6_bitCount_0f7a4 (28, .iadd, 1) (List.mem_of_getElem? (i := 22) rfl)
theorem dJ6_bitCount_0f7a4_29 : decode cJ6_bitCount_0f7a4 29 = .ok (.ldc_w 267, 3) := daJ6_bitCount_0f7a4 (29, .ldc_w 267, 3) (List.mem_of_getElem? (i := 23) rfl)
theorem dJ6_bitCount_0f7a4_32 : decode cJ6_bitCount_0f7a4 32 = .ok (.iand, 1) := daJ6_bitCount_0f7a4 (32, .iand, 1) (List.mem_of_getElem? (i := 24) rfl)
theorem dJ6_bitCount_0f7a4_33 : decode cJ6_bitCount_0f7a4 33 = .ok (.istore_n 0, 1) := daJ6_bitCount_0f7a4 (33, .istore_n 0, 1) (List.mem_of_getElem? (i := 25) rfl)
theorem dJ6_bitCount_0f7a4_34 : decode cJ6_bitCount_0f7a4 34 = .ok (.iload_n 0, 1) := daJ6_bitCount_0f7a4 (34, .iload_n 0, 1) (List.mem_of_getElem? (i := 26) rfl)
theorem dJ6_bitCount_0f7a4_35 : decode cJ6_bitCount_0f7a4 35 = .ok (.iload_n 0, 1) := daJ6_bitCount_0f7a4 (35, .iload_n 0, 1) (List.mem_of_getElem? (i := 27) rfl)
theorem dJ6_bitCount_0f7a4_36 : decode cJ6_bitCount_0f7a4 36 = .ok (.bipush 8, 2) := daJ6_bitCount_0f7a4 (36, .bipush 8, 2) (List.mem_of_getElem? (i := 28) rfl)
theorem dJ6_bitCount_0f7a4_38 : decode cJ6_bitCount_0f7a4 38 = .ok (.iushr, 1) := daJ6_bitCount_0f7a4 (38, .iushr, 1) (List.mem_of_getElem? (i := 29) rfl)
theorem dJ6_bitCount_0f7a4_39 : decode cJ6_bitCount_0f7a4 39 = .ok (.iadd, 1) := daJ6_bitCount_0f7a4 (39, .iadd, 1) (List.mem_of_getElem? (i := 30) rfl)
theorem dJ6_bitCount_0f7a4_40 : decode cJ6_bitCount_0f7a4 40 = .ok (.istore_n 0, 1) := daJ6_bitCount_0f7a4 (40, .istore_n 0, 1) (List.mem_of_getElem? (i := 31) rfl)
theorem dJ6_bitCount_0f7a4_41 : decode cJ6_bitCount_0f7a4 41 = .ok (.iload_n 0, 1) := daJ6_bitCount_0f7a4 (41, .iload_n 0, 1) (List.mem_of_getElem? (i := 32) rfl)
theorem dJ6_bitCount_0f7a4_42 : decode cJ6_bitCount_0f7a4 42 = .ok (.iload_n 0, 1) := daJ6_bitCount_0f7a4 (42, .iload_n 0, 1) (List.mem_of_getElem? (i := 33) rfl)
theorem dJ6_bitCount_0f7a4_43 : decode cJ6_bitCount_0f7a4 43 = .ok (.bipush 16, 2) := daJ6_bitCount_0f7a4 (43, .bipush 16, 2) (List.mem_of_getElem? (i := 34) rfl)
theorem dJ6_bitCount_0f7a4_45 : decode cJ6_bitCount_0f7a4 45 = .ok (.iushr, 1) := daJ6_bitCount_0f7a4 (45, .iushr, 1) (List.mem_of_getElem? (i := 35) rfl)
theorem dJ6_bitCount_0f7a4_46 : decode cJ6_bitCount_0f7a4 46 = .ok (.iadd, 1) := daJ6_bitCount_0f7a4 (46, .iadd, 1) (List.mem_of_getElem? (i := 36) rfl)
theorem dJ6_bitCount_0f7a4_47 : decode cJ6_bitCount_0f7a4 47 = .ok (.istore_n 0, 1) := daJ6_bitCount_0f7a4 (47, .istore_n 0, 1) (List.mem_of_getElem? (i := 37) rfl)
theorem dJ6_bitCount_0f7a4_48 : decode cJ6_bitCount_0f7a4 48 = .ok (.iload_n 0, 1) := daJ6_bitCount_0f7a4 (48, .iload_n 0, 1) (List.mem_of_getElem? (i := 38) rfl)
theorem dJ6_bitCount_0f7a4_49 : decode cJ6_bitCount_0f7a4 49 = .ok (.bipush 63, 2) := daJ6_bitCount_0f7a4 (49, .bipush 63, 2) (List.mem_of_getElem? (i := 39) rfl)
theorem dJ6_bitCount_0f7a4_51 : decode cJ6_bitCount_0f7a4 51 = .ok (.iand, 1) := daJ6_bitCount_0f7a4 (51, .iand, 1) (List.mem_of_getElem? (i := 40) rfl)
theorem dJ6_bitCount_0f7a4_52 : decode cJ6_bitCount_0f7a4 52 = .ok (.ireturn, 1) := daJ6_bitCount_0f7a4 (52, .ireturn, 1) (List.mem_of_getElem? (i := 41) rfl)
def rmJ6_bitCount_0f7a4 : Room := { frames := 0, cells := 0, slots := 0, locals := 0 }
theorem zdJ6_bitCount_0f7a4 : yJ6_bitCount_0f7a4.cls = RJ6 ∧ yJ6_bitCount_0f7a4.cls ≠ "java/lang/invoke/MethodHandle" ∧ yJ6_bitCount_0f7a4.cls ≠ "java/lang/invoke/VarHandle" ∧ (parseMethodDescriptor yJ6_bitCount_0f7a4.desc).map (fun d => d.parameters.length) = some 1 := by decide +kernel
theorem kcJ6_bitCount_0f7a4_265 : Cond.constant RJ6 265 (1431655765) ∈ wsJ6_bitCount_0f7a4 := by decide +kernel
theorem kcJ6_bitCount_0f7a4_266 : Cond.constant RJ6 266 (858993459) ∈ wsJ6_bitCount_0f7a4 := by decide +kernel
theorem kcJ6_bitCount_0f7a4_267 : Cond.constant RJ6 267 (252645135) ∈ wsJ6_bitCount_0f7a4 := by decide +kernel
def s_J6_bitCount_0f7a4 (a1 : Int32) : Option (Int32) :=
  bn (a1 - ((zus a1 1) &&& 1431655765)) fun x1 => bn ((x1 &&& 858993459) + ((zus x1 2) &&& 858993459)) fun x2 => bn ((x2 + (zus x2 4)) &&& 252645135) fun x3 => bn (x3 + (zus x3 8)) fun x4 => bn (x4 + (zus x4 16)) fun x5 => some (x5 &&& 63)
set_option maxRecDepth 100000 in
set_option maxHeartbeats 4000000 in
theorem c_J6_bitCount_0f7a4 (l : Launch) (w : ZW) {m : Mem} {a1 : Int32} {r9 : Int32}  (hf : s_J6_bitCount_0f7a4 a1 = some r9) : zCi MX l w yJ6_bitCount_0f7a4 wsJ6_bitCount_0f7a4 rmJ6_bitCount_0f7a4 [.int a1] m m r9 := by
  refine z_met_i MX_ok (own := RJ6) (by decide +kernel) rfl rfl (Nat.le_of_ble_eq_true rfl) ?_
  intro K C hKw hKl hret
  subst hKw
  subst hKl
  unfold s_J6_bitCount_0f7a4 at hf
  show zGo MX K m [(0, .int a1)] 0 []
  refine z_iload_n C 0 dJ6_bitCount_0f7a4_0 rfl rfl ?_
  refine z_iload_n C 0 dJ6_bitCount_0f7a4_1 rfl rfl ?_
  refine z_iconst C (v := 1) dJ6_bitCount_0f7a4_2 rfl ?_
  refine z_iushr C dJ6_bitCount_0f7a4_3 ?_
  refine z_ldcw C (v := 1431655765) dJ6_bitCount_0f7a4_4 kcJ6_bitCount_0f7a4_265 ?_
  refine z_iand C dJ6_bitCount_0f7a4_7 ?_
  refine z_isub C dJ6_bitCount_0f7a4_8 ?_
  refine z_topi (fun x1 e_x1 => ?_)
  replace hf := bn_to e_x1 hf
  refine z_istore_n C (lv2 := [(0, .int x1)]) [0] dJ6_bitCount_0f7a4_9 rfl (Nat.le_of_ble_eq_true rfl) rfl ?_
  refine z_iload_n C 0 dJ6_bitCount_0f7a4_10 rfl rfl ?_
  refine z_ldcw C (v := 858993459) dJ6_bitCount_0f7a4_11 kcJ6_bitCount_0f7a4_266 ?_
  refine z_iand C dJ6_bitCount_0f7a4_14 ?_
  refine z_iload_n C 0 dJ6_bitCount_0f7a4_15 rfl rfl ?_
  refine z_iconst C (v := 2) dJ6_bitCount_0f7a4_16 rfl ?_
  refine z_iushr C dJ6_bitCount_0f7a4_17 ?_
  refine z_ldcw C (v := 858993459) dJ6_bitCount_0f7a4_18 kcJ6_bitCount_0f7a4_266 ?_
  refine z_iand C dJ6_bitCount_0f7a4_21 ?_
  refine z_iadd C dJ6_bitCount_0f7a4_22 ?_
  refine z_topi (fun x2 e_x2 => ?_)
  replace hf := bn_to e_x2 hf
  refine z_istore_n C (lv2 := [(0, .int x2)]) [0] dJ6_bitCount_0f7a4_23 rfl (Nat.le_of_ble_eq_true rfl) rfl ?_
  refine z_iload_n C 0 dJ6_bitCount_0f7a4_24 rfl rfl ?_
  refine z_iload_n C 0 dJ6_bitCount_0f7a4_25 rfl rfl ?_
  refine z_iconst C (v := 4) dJ6_bitCount_0f7a4_26 rfl ?_
  refine z_iushr C dJ6_bitCount_0f7a4_27 ?_
  refine z_iadd C dJ6_bitCount_0f7a4_28 ?_
  refine z_ldcw C (v := 252645135) dJ6_bitCount_0f7a4_29 kcJ6_bitCount_0f7a4_267 ?_
  refine z_iand C dJ6_bitCount_0f7a4_32 ?_
  refine z_topi (fun x3 e_x3 => ?_)
  replace hf := bn_to e_x3 hf
  refine z_istore_n C (lv2 := [(0, .int x3)]) [0] dJ6_bitCount_0f7a4_33 rfl (Nat.le_of_ble_eq_true rfl) rfl ?_
  refine z_iload_n C 0 dJ6_bitCount_0f7a4_34 rfl rfl ?_
  refine z_iload_n C 0 dJ6_bitCount_0f7a4_35 rfl rfl ?_
  refine z_bipush C (v := 8) dJ6_bitCount_0f7a4_36 rfl ?_
  refine z_iushr C dJ6_bitCount_0f7a4_38 ?_
  refine z_iadd C dJ6_bitCount_0f7a4_39 ?_
  refine z_topi (fun x4 e_x4 => ?_)
  replace hf := bn_to e_x4 hf
  refine z_istore_n C (lv2 := [(0, .int x4)]) [0] dJ6_bitCount_0f7a4_40 rfl (Nat.le_of_ble_eq_true rfl) rfl ?_
  refine z_iload_n C 0 dJ6_bitCount_0f7a4_41 rfl rfl ?_
  refine z_iload_n C 0 dJ6_bitCount_0f7a4_42 rfl rfl ?_
  refine z_bipush C (v := 16) dJ6_bitCount_0f7a4_43 rfl ?_
  refine z_iushr C dJ6_bitCount_0f7a4_45 ?_
  refine z_iadd C dJ6_bitCount_0f7a4_46 ?_
  refine z_topi (fun x5 e_x5 => ?_)
  replace hf := bn_to e_x5 hf
  refine z_istore_n C (lv2 := [(0, .int x5)]) [0] dJ6_bitCount_0f7a4_47 rfl (Nat.le_of_ble_eq_true rfl) rfl ?_
  refine z_iload_n C 0 dJ6_bitCount_0f7a4_48 rfl rfl ?_
  refine z_bipush C (v := 63) dJ6_bitCount_0f7a4_49 rfl ?_
  refine z_iand C dJ6_bitCount_0f7a4_51 ?_
  cases hf
  exact hret _ _ dJ6_bitCount_0f7a4_52
theorem dJ0_coder_7d493_0 : decode cJ0_coder_7d493 0 = .ok (.getstatic 38, 3) := by decide +kernel
theorem dJ0_coder_7d493_3 : decode cJ0_coder_7d493 3 = .ok (.ifCond .eq 10, 3) := by decide +kernel
theorem dJ0_coder_7d493_6 : decode cJ0_coder_7d493 6 = .ok (.aload_n 0, 1) := by decide +kernel
theorem dJ0_coder_7d493_7 : decode cJ0_coder_7d493 7 = .ok (.getfield 15, 3) := by decide +kernel
theorem dJ0_coder_7d493_10 : decode cJ0_coder_7d493 10 = .ok (.goto 4, 3) := by decide +kernel
theorem dJ0_coder_7d493_13 : decode cJ0_coder_7d493 13 = .ok (.iconst 1, 1) := by decide +kernel
theorem dJ0_coder_7d493_14 : decode cJ0_coder_7d493 14 = .ok (.ireturn, 1) := by decide +kernel
def rmJ0_coder_7d493 : Room := { frames := 0, cells := 0, slots := 0, locals := 0 }
theorem zdJ0_coder_7d493 : yJ0_coder_7d493.cls = RJ0 ∧ yJ0_coder_7d493.cls ≠ "java/lang/invoke/MethodHandle" ∧ yJ0_coder_7d493.cls ≠ "java/lang/invoke/VarHandle" ∧ (parseMethodDescriptor yJ0_coder_7d493.desc).map (fun d => d.parameters.length) = some 0 := by decide +kernel
theorem kfJ0_coder_7d493_38 : Cond.fieldLink RJ0 38 "java/lang/String" "COMPACT_STRINGS" "Z" ∈ wsJ0_coder_7d493 := by decide +kernel
theorem kfJ0_coder_7d493_15 : Cond.fieldLink RJ0 15 "java/lang/String" "coder" "B" ∈ wsJ0_coder_7d493 := by decide +kernel
def s_J0_coder_7d493  : Option (Int32) :=
  (if (1 : Int32) = 0 then (some 1) else (some 0))
set_option maxRecDepth 100000 in
set_option maxHeartbeats 4000000 in
theorem c_J0_coder_7d493 (l : Launch) (w : ZW) {m : Mem}  {r9 : Int32}  (hf : s_J0_coder_7d493  = some r9) : zCi MX l w yJ0_coder_7d493 wsJ0_coder_7d493 rmJ0_coder_7d493 [.ref (w.2.1 101)] m m r9 := by
  refine z_met_t MX_ok (own := RJ0) (by decide +kernel) rfl rfl (Nat.le_of_ble_eq_true rfl) ?_
  intro K C hKw hKl hret
  subst hKw
  subst hKl
  unfold s_J0_coder_7d493 at hf
  show zGo MX K m [(0, .ref ((zw K).2.1 101))] 0 []
  refine z_gcom C kfJ0_coder_7d493_38 dJ0_coder_7d493_0 ?_
  refine z_if_eq (tgt := 13) C dJ0_coder_7d493_3 (by decide) (fun c1 => ?_) (fun c1 => ?_)
  · replace hf := if_t c1 hf
    refine z_iconst C (v := 1) dJ0_coder_7d493_13 rfl ?_
    cases hf
    exact hret _ _ dJ0_coder_7d493_14 rfl
  · replace hf := if_f c1 hf
    refine z_aload_n C 0 dJ0_coder_7d493_6 rfl rfl ?_
    refine z_strc C kfJ0_coder_7d493_15 dJ0_coder_7d493_7 ?_
    refine z_goto (tgt := 14) C dJ0_coder_7d493_10 (by decide) ?_
    cases hf
    exact hret _ _ dJ0_coder_7d493_14 rfl
set_option maxRecDepth 20000 in
theorem ggJ0_length_8abf5_J0_coder_7d493 : GoodIn wsJ0_length_8abf5 wsJ0_coder_7d493 := goodIn_r _ [6, 7, 8] (by decide +kernel) (by decide +kernel)
set_option maxRecDepth 20000 in
theorem gJ0_length_8abf5_J0_coder_7d493 : GoodIn wsJ0_length_8abf5 (wsV RJ0 335 RJ0 yJ0_coder_7d493 wsJ0_coder_7d493) := goodIn_app (goodIn_of _ (by decide +kernel)) ggJ0_length_8abf5_J0_coder_7d493
theorem dJ0_length_8abf5_0 : decode cJ0_length_8abf5 0 = .ok (.aload_n 0, 1) := by decide +kernel
theorem dJ0_length_8abf5_1 : decode cJ0_length_8abf5 1 = .ok (.getfield 9, 3) := by decide +kernel
theorem dJ0_length_8abf5_4 : decode cJ0_length_8abf5 4 = .ok (.arraylength, 1) := by decide +kernel
theorem dJ0_length_8abf5_5 : decode cJ0_length_8abf5 5 = .ok (.aload_n 0, 1) := by decide +kernel
theorem dJ0_length_8abf5_6 : decode cJ0_length_8abf5 6 = .ok (.invokevirtual 335, 3) := by decide +kernel
theorem dJ0_length_8abf5_9 : decode cJ0_length_8abf5 9 = .ok (.ishr, 1) := by decide +kernel
theorem dJ0_length_8abf5_10 : decode cJ0_length_8abf5 10 = .ok (.ireturn, 1) := by decide +kernel
def rmJ0_length_8abf5 : Room := { frames := 1, cells := 0, slots := 0, locals := 20 }
theorem zdJ0_length_8abf5 : yJ0_length_8abf5.cls = RJ0 ∧ yJ0_length_8abf5.cls ≠ "java/lang/invoke/MethodHandle" ∧ yJ0_length_8abf5.cls ≠ "java/lang/invoke/VarHandle" ∧ (parseMethodDescriptor yJ0_length_8abf5.desc).map (fun d => d.parameters.length) = some 0 := by decide +kernel
theorem kfJ0_length_8abf5_9 : Cond.fieldLink RJ0 9 "java/lang/String" "value" "[B" ∈ wsJ0_length_8abf5 := by decide +kernel
def s_J0_length_8abf5  : Option (Int32) :=
  (s_J0_coder_7d493 ).bind fun r2 => some ((6 : Int32) >>> (r2 &&& 31))
set_option maxRecDepth 100000 in
set_option maxHeartbeats 4000000 in
theorem c_J0_length_8abf5 (l : Launch) (w : ZW) {m : Mem}  {r9 : Int32}  (hf : s_J0_length_8abf5  = some r9) : zCi MX l w yJ0_length_8abf5 wsJ0_length_8abf5 rmJ0_length_8abf5 [.ref (w.2.1 101)] m m r9 := by
  refine z_met_i MX_ok (own := RJ0) (by decide +kernel) rfl rfl (Nat.le_of_ble_eq_true rfl) ?_
  intro K C hKw hKl hret
  subst hKw
  subst hKl
  unfold s_J0_length_8abf5 at hf
  show zGo MX K m [(0, .ref ((zw K).2.1 101))] 0 []
  refine z_aload_n C 0 dJ0_length_8abf5_0 rfl rfl ?_
  refine z_strv C kfJ0_length_8abf5_9 dJ0_length_8abf5_1 ?_
  refine z_strn C dJ0_length_8abf5_4 ?_
  refine z_aload_n C 0 dJ0_length_8abf5_5 rfl rfl ?_
  obtain ⟨r2, hc1, hf⟩ := zb_el hf
  refine z_cVs C (c_J0_coder_7d493 _ _ hc1) rfl gJ0_length_8abf5_J0_coder_7d493 rfl rfl zdJ0_coder_7d493 rfl rfl ⟨Nat.le_of_ble_eq_true rfl, Nat.le_of_ble_eq_true rfl⟩ (Nat.le_of_ble_eq_true rfl) dJ0_length_8abf5_6 rfl ?_
  refine z_ishr C dJ0_length_8abf5_9 ?_
  cases hf
  exact hret _ _ dJ0_length_8abf5_10
theorem dJ0_isLatin1_aae02_0 : decode cJ0_isLatin1_aae02 0 = .ok (.getstatic 38, 3) := by decide +kernel
theorem dJ0_isLatin1_aae02_3 : decode cJ0_isLatin1_aae02 3 = .ok (.ifCond .eq 14, 3) := by decide +kernel
theorem dJ0_isLatin1_aae02_6 : decode cJ0_isLatin1_aae02 6 = .ok (.aload_n 0, 1) := by decide +kernel
theorem dJ0_isLatin1_aae02_7 : decode cJ0_isLatin1_aae02 7 = .ok (.getfield 15, 3) := by decide +kernel
theorem dJ0_isLatin1_aae02_10 : decode cJ0_isLatin1_aae02 10 = .ok (.ifCond .ne 7, 3) := by decide +kernel
theorem dJ0_isLatin1_aae02_13 : decode cJ0_isLatin1_aae02 13 = .ok (.iconst 1, 1) := by decide +kernel
theorem dJ0_isLatin1_aae02_14 : decode cJ0_isLatin1_aae02 14 = .ok (.goto 4, 3) := by decide +kernel
theorem dJ0_isLatin1_aae02_17 : decode cJ0_isLatin1_aae02 17 = .ok (.iconst 0, 1) := by decide +kernel
theorem dJ0_isLatin1_aae02_18 : decode cJ0_isLatin1_aae02 18 = .ok (.ireturn, 1) := by decide +kernel
def rmJ0_isLatin1_aae02 : Room := { frames := 0, cells := 0, slots := 0, locals := 0 }
theorem zdJ0_isLatin1_aae02 : yJ0_isLatin1_aae02.cls = RJ0 ∧ yJ0_isLatin1_aae02.cls ≠ "java/lang/invoke/MethodHandle" ∧ yJ0_isLatin1_aae02.cls ≠ "java/lang/invoke/VarHandle" ∧ (parseMethodDescriptor yJ0_isLatin1_aae02.desc).map (fun d => d.parameters.length) = some 0 := by decide +kernel
theorem kfJ0_isLatin1_aae02_38 : Cond.fieldLink RJ0 38 "java/lang/String" "COMPACT_STRINGS" "Z" ∈ wsJ0_isLatin1_aae02 := by decide +kernel
theorem kfJ0_isLatin1_aae02_15 : Cond.fieldLink RJ0 15 "java/lang/String" "coder" "B" ∈ wsJ0_isLatin1_aae02 := by decide +kernel
def s_J0_isLatin1_aae02  : Option (Int32) :=
  (if (1 : Int32) = 0 then (some 0) else ((if (0 : Int32) = 0 then (some 1) else (some 0))))
set_option maxRecDepth 100000 in
set_option maxHeartbeats 4000000 in
theorem c_J0_isLatin1_aae02 (l : Launch) (w : ZW) {m : Mem}  {r9 : Int32}  (hf : s_J0_isLatin1_aae02  = some r9) : zCi MX l w yJ0_isLatin1_aae02 wsJ0_isLatin1_aae02 rmJ0_isLatin1_aae02 [.ref (w.2.1 101)] m m r9 := by
  refine z_met_z MX_ok (own := RJ0) (by decide +kernel) rfl rfl (Nat.le_of_ble_eq_true rfl) ?_
  intro K C hKw hKl hret
  subst hKw
  subst hKl
  unfold s_J0_isLatin1_aae02 at hf
  show zGo MX K m [(0, .ref ((zw K).2.1 101))] 0 []
  refine z_gcom C kfJ0_isLatin1_aae02_38 dJ0_isLatin1_aae02_0 ?_
  refine z_if_eq (tgt := 17) C dJ0_isLatin1_aae02_3 (by decide) (fun c2 => ?_) (fun c2 => ?_)
  · replace hf := if_t c2 hf
    refine z_iconst C (v := 0) dJ0_isLatin1_aae02_17 rfl ?_
    cases hf
    exact hret _ _ dJ0_isLatin1_aae02_18 (Or.inl rfl)
  · replace hf := if_f c2 hf
    refine z_aload_n C 0 dJ0_isLatin1_aae02_6 rfl rfl ?_
    refine z_strc C kfJ0_isLatin1_aae02_15 dJ0_isLatin1_aae02_7 ?_
    refine z_if_ne (tgt := 17) C dJ0_isLatin1_aae02_10 (by decide) (fun c1 => ?_) (fun c1 => ?_)
    · replace hf := if_f c1 hf
      refine z_iconst C (v := 0) dJ0_isLatin1_aae02_17 rfl ?_
      cases hf
      exact hret _ _ dJ0_isLatin1_aae02_18 (Or.inl rfl)
    · replace hf := if_t c1 hf
      refine z_iconst C (v := 1) dJ0_isLatin1_aae02_13 rfl ?_
      refine z_goto (tgt := 18) C dJ0_isLatin1_aae02_14 (by decide) ?_
      cases hf
      exact hret _ _ dJ0_isLatin1_aae02_18 (Or.inr rfl)
theorem dJ3_checkIndex_8e157_0 : decode cJ3_checkIndex_8e157 0 = .ok (.iload_n 0, 1) := by decide +kernel
theorem dJ3_checkIndex_8e157_1 : decode cJ3_checkIndex_8e157 1 = .ok (.ifCond .lt 8, 3) := by decide +kernel
theorem dJ3_checkIndex_8e157_4 : decode cJ3_checkIndex_8e157 4 = .ok (.iload_n 0, 1) := by decide +kernel
theorem dJ3_checkIndex_8e157_5 : decode cJ3_checkIndex_8e157 5 = .ok (.iload_n 1, 1) := by decide +kernel
theorem dJ3_checkIndex_8e157_6 : decode cJ3_checkIndex_8e157 6 = .ok (.if_icmp .lt 10, 3) := by decide +kernel
theorem dJ3_checkIndex_8e157_9 : decode cJ3_checkIndex_8e157 9 = .ok (.aload_n 2, 1) := by decide +kernel
theorem dJ3_checkIndex_8e157_10 : decode cJ3_checkIndex_8e157 10 = .ok (.iload_n 0, 1) := by decide +kernel
theorem dJ3_checkIndex_8e157_11 : decode cJ3_checkIndex_8e157 11 = .ok (.iload_n 1, 1) := by decide +kernel
theorem dJ3_checkIndex_8e157_12 : decode cJ3_checkIndex_8e157 12 = .ok (.invokestatic 95, 3) := by decide +kernel
theorem dJ3_checkIndex_8e157_15 : decode cJ3_checkIndex_8e157 15 = .ok (.athrow, 1) := by decide +kernel
theorem dJ3_checkIndex_8e157_16 : decode cJ3_checkIndex_8e157 16 = .ok (.iload_n 0, 1) := by decide +kernel
theorem dJ3_checkIndex_8e157_17 : decode cJ3_checkIndex_8e157 17 = .ok (.ireturn, 1) := by decide +kernel
def rmJ3_checkIndex_8e157 : Room := { frames := 1, cells := 0, slots := 0, locals := 21 }
theorem zdJ3_checkIndex_8e157 : yJ3_checkIndex_8e157.cls = RJ3 ∧ yJ3_checkIndex_8e157.cls ≠ "java/lang/invoke/MethodHandle" ∧ yJ3_checkIndex_8e157.cls ≠ "java/lang/invoke/VarHandle" ∧ (parseMethodDescriptor yJ3_checkIndex_8e157.desc).map (fun d => d.parameters.length) = some 3 := by decide +kernel
def s_J3_checkIndex_8e157 (a1 : Int32) (a2 : Int32) : Option (Int32) :=
  (if a1 < 0 then (none) else ((if a1 < a2 then (some a1) else (none))))
set_option maxRecDepth 100000 in
set_option maxHeartbeats 4000000 in
theorem c_J3_checkIndex_8e157 (l : Launch) (w : ZW) {m : Mem} {a1 : Int32} {a2 : Int32} {r9 : Int32} {fv : Value} (hfv : fv = .null ∨ ∃ t : Nat, fv = .ref t) (hf : s_J3_checkIndex_8e157 a1 a2 = some r9) : zCi MX l w yJ3_checkIndex_8e157 wsJ3_checkIndex_8e157 rmJ3_checkIndex_8e157 [.int a1, .int a2, fv] m m r9 := by
  have hln : (lg_sl [.int a1, .int a2, fv]).length ≤ 3 := by rcases hfv with rfl | ⟨t, rfl⟩ <;> exact Nat.le_of_ble_eq_true rfl
  refine z_met_i MX_ok (own := RJ3) (by decide +kernel) rfl rfl hln ?_
  intro K C hKw hKl hret
  subst hKw
  subst hKl
  unfold s_J3_checkIndex_8e157 at hf
  show zGo MX K m [(0, .int a1), (1, .int a2), (2, fv)] 0 []
  refine z_iload_n C 0 dJ3_checkIndex_8e157_0 rfl rfl ?_
  refine z_if_lt (tgt := 9) C dJ3_checkIndex_8e157_1 (by decide) (fun c2 => ?_) (fun c2 => ?_)
  · replace hf := if_t c2 hf
    cases hf
  · replace hf := if_f c2 hf
    refine z_iload_n C 0 dJ3_checkIndex_8e157_4 rfl rfl ?_
    refine z_iload_n C 1 dJ3_checkIndex_8e157_5 rfl rfl ?_
    refine z_icmp_lt (tgt := 16) C dJ3_checkIndex_8e157_6 (by decide) (fun c1 => ?_) (fun c1 => ?_)
    · replace hf := if_t c1 hf
      refine z_iload_n C 0 dJ3_checkIndex_8e157_16 rfl rfl ?_
      cases hf
      exact hret _ _ dJ3_checkIndex_8e157_17
    · replace hf := if_f c1 hf
      cases hf
set_option maxRecDepth 20000 in
theorem ggJ0_checkIndex_df160_J3_checkIndex_8e157 : GoodIn wsJ0_checkIndex_df160 wsJ3_checkIndex_8e157 := goodIn_r _ [5] (by decide +kernel) (by decide +kernel)
set_option maxRecDepth 20000 in
theorem gJ0_checkIndex_df160_J3_checkIndex_8e157 : GoodIn wsJ0_checkIndex_df160 (va_wsS RJ0 1059 yJ3_checkIndex_8e157 wsJ3_checkIndex_8e157) := goodIn_app (goodIn_of _ (by decide +kernel)) ggJ0_checkIndex_df160_J3_checkIndex_8e157
theorem dJ0_checkIndex_df160_0 : decode cJ0_checkIndex_df160 0 = .ok (.iload_n 0, 1) := by decide +kernel
theorem dJ0_checkIndex_df160_1 : decode cJ0_checkIndex_df160 1 = .ok (.iload_n 1, 1) := by decide +kernel
theorem dJ0_checkIndex_df160_2 : decode cJ0_checkIndex_df160 2 = .ok (.getstatic 1053, 3) := by decide +kernel
theorem dJ0_checkIndex_df160_5 : decode cJ0_checkIndex_df160 5 = .ok (.invokestatic 1059, 3) := by decide +kernel
theorem dJ0_checkIndex_df160_8 : decode cJ0_checkIndex_df160 8 = .ok (.pop, 1) := by decide +kernel
theorem dJ0_checkIndex_df160_9 : decode cJ0_checkIndex_df160 9 = .ok (.return_, 1) := by decide +kernel
def rmJ0_checkIndex_df160 : Room := { frames := 2, cells := 0, slots := 0, locals := 43 }
theorem zdJ0_checkIndex_df160 : yJ0_checkIndex_df160.cls = RJ0 ∧ yJ0_checkIndex_df160.cls ≠ "java/lang/invoke/MethodHandle" ∧ yJ0_checkIndex_df160.cls ≠ "java/lang/invoke/VarHandle" ∧ (parseMethodDescriptor yJ0_checkIndex_df160.desc).map (fun d => d.parameters.length) = some 2 := by decide +kernel
theorem kfJ0_checkIndex_df160_1053 : Cond.fieldLink RJ0 1053 "jdk/internal/util/Preconditions" "SIOOBE_FORMATTER" "Ljava/util/function/BiFunction;" ∈ wsJ0_checkIndex_df160 := by decide +kernel
def s_J0_checkIndex_df160 (a1 : Int32) (a2 : Int32) : Option (Unit) :=
  (s_J3_checkIndex_8e157 a1 a2).bind fun r2 => some ()
set_option maxRecDepth 100000 in
set_option maxHeartbeats 4000000 in
theorem c_J0_checkIndex_df160 (l : Launch) (w : ZW) {m : Mem} {a1 : Int32} {a2 : Int32}   (hf : s_J0_checkIndex_df160 a1 a2 = some ()) : zCv MX l w yJ0_checkIndex_df160 wsJ0_checkIndex_df160 rmJ0_checkIndex_df160 [.int a1, .int a2] m m := by
  refine z_met_v MX_ok (own := RJ0) (by decide +kernel) rfl rfl (Nat.le_of_ble_eq_true rfl) ?_
  intro K C hKw hKl hret
  subst hKw
  subst hKl
  unfold s_J0_checkIndex_df160 at hf
  show zGo MX K m [(0, .int a1), (1, .int a2)] 0 []
  refine z_iload_n C 0 dJ0_checkIndex_df160_0 rfl rfl ?_
  refine z_iload_n C 1 dJ0_checkIndex_df160_1 rfl rfl ?_
  refine z_gfmt C kfJ0_checkIndex_df160_1053 dJ0_checkIndex_df160_2 (fun fv hfv => ?_)
  obtain ⟨r2, hc1, hf⟩ := zb_el hf
  refine z_cSi C (c_J3_checkIndex_8e157 _ _ hfv hc1) rfl gJ0_checkIndex_df160_J3_checkIndex_8e157 rfl rfl zdJ3_checkIndex_8e157.2 rfl ⟨Nat.le_of_ble_eq_true rfl, Nat.le_of_ble_eq_true rfl⟩ (Nat.le_of_ble_eq_true rfl) dJ0_checkIndex_df160_5 rfl ?_
  refine z_pop C dJ0_checkIndex_df160_8 ?_
  cases hf
  exact hret _ _ dJ0_checkIndex_df160_9
set_option maxRecDepth 20000 in
theorem ggJ1_charAt_3b067_J0_checkIndex_df160 : GoodIn wsJ1_charAt_3b067 wsJ0_checkIndex_df160 := goodIn_r _ [4, 5, 6, 7, 8, 9] (by decide +kernel) (by decide +kernel)
set_option maxRecDepth 20000 in
theorem gJ1_charAt_3b067_J0_checkIndex_df160 : GoodIn wsJ1_charAt_3b067 (va_wsS RJ1 9 yJ0_checkIndex_df160 wsJ0_checkIndex_df160) := goodIn_app (goodIn_of _ (by decide +kernel)) ggJ1_charAt_3b067_J0_checkIndex_df160
theorem dJ1_charAt_3b067_0 : decode cJ1_charAt_3b067 0 = .ok (.iload_n 1, 1) := by decide +kernel
theorem dJ1_charAt_3b067_1 : decode cJ1_charAt_3b067 1 = .ok (.aload_n 0, 1) := by decide +kernel
theorem dJ1_charAt_3b067_2 : decode cJ1_charAt_3b067 2 = .ok (.arraylength, 1) := by decide +kernel
theorem dJ1_charAt_3b067_3 : decode cJ1_charAt_3b067 3 = .ok (.invokestatic 9, 3) := by decide +kernel
theorem dJ1_charAt_3b067_6 : decode cJ1_charAt_3b067 6 = .ok (.aload_n 0, 1) := by decide +kernel
theorem dJ1_charAt_3b067_7 : decode cJ1_charAt_3b067 7 = .ok (.iload_n 1, 1) := by decide +kernel
theorem dJ1_charAt_3b067_8 : decode cJ1_charAt_3b067 8 = .ok (.baload, 1) := by decide +kernel
theorem dJ1_charAt_3b067_9 : decode cJ1_charAt_3b067 9 = .ok (.sipush 255, 3) := by decide +kernel
theorem dJ1_charAt_3b067_12 : decode cJ1_charAt_3b067 12 = .ok (.iand, 1) := by decide +kernel
theorem dJ1_charAt_3b067_13 : decode cJ1_charAt_3b067 13 = .ok (.i2c, 1) := by decide +kernel
theorem dJ1_charAt_3b067_14 : decode cJ1_charAt_3b067 14 = .ok (.ireturn, 1) := by decide +kernel
def rmJ1_charAt_3b067 : Room := { frames := 3, cells := 0, slots := 0, locals := 64 }
theorem zdJ1_charAt_3b067 : yJ1_charAt_3b067.cls = RJ1 ∧ yJ1_charAt_3b067.cls ≠ "java/lang/invoke/MethodHandle" ∧ yJ1_charAt_3b067.cls ≠ "java/lang/invoke/VarHandle" ∧ (parseMethodDescriptor yJ1_charAt_3b067.desc).map (fun d => d.parameters.length) = some 2 := by decide +kernel
def s_J1_charAt_3b067 (a2 : Int32) : Option (Int32) :=
  (s_J0_checkIndex_df160 a2 6).bind fun u2 => ck (zin a2 6 = true) (some (((clo (Int32.toNatClampNeg a2)) &&& 255).toUInt32 % 65536).toInt32)
set_option maxRecDepth 100000 in
set_option maxHeartbeats 4000000 in
theorem c_J1_charAt_3b067 (l : Launch) (w : ZW) {m : Mem} {a2 : Int32} {r9 : Int32}  (hf : s_J1_charAt_3b067 a2 = some r9) : zCi MX l w yJ1_charAt_3b067 wsJ1_charAt_3b067 rmJ1_charAt_3b067 [.ref (w.2.1 102), .int a2] m m r9 := by
  refine z_met_t MX_ok (own := RJ1) (by decide +kernel) rfl rfl (Nat.le_of_ble_eq_true rfl) ?_
  intro K C hKw hKl hret
  subst hKw
  subst hKl
  unfold s_J1_charAt_3b067 at hf
  show zGo MX K m [(0, .ref ((zw K).2.1 102)), (1, .int a2)] 0 []
  refine z_iload_n C 1 dJ1_charAt_3b067_0 rfl rfl ?_
  refine z_aload_n C 0 dJ1_charAt_3b067_1 rfl rfl ?_
  refine z_strn C dJ1_charAt_3b067_2 ?_
  obtain ⟨u2, hc1, hf⟩ := zb_el hf
  refine z_cSv C (c_J0_checkIndex_df160 _ _ hc1) rfl gJ1_charAt_3b067_J0_checkIndex_df160 rfl rfl zdJ0_checkIndex_df160.2 rfl ⟨Nat.le_of_ble_eq_true rfl, Nat.le_of_ble_eq_true rfl⟩ (Nat.le_of_ble_eq_true rfl) dJ1_charAt_3b067_3 rfl ?_
  refine z_aload_n C 0 dJ1_charAt_3b067_6 rfl rfl ?_
  refine z_iload_n C 1 dJ1_charAt_3b067_7 rfl rfl ?_
  obtain ⟨hi3, hf⟩ := ck_el hf
  refine z_strl C hi3 dJ1_charAt_3b067_8 ?_
  refine z_sipush C (v := 255) dJ1_charAt_3b067_9 rfl ?_
  refine z_iand C dJ1_charAt_3b067_12 ?_
  refine z_i2c C dJ1_charAt_3b067_13 ?_
  cases hf
  exact hret _ _ dJ1_charAt_3b067_14 (pk_nc _)
set_option maxRecDepth 20000 in
theorem ggJ0_charAt_5068e_J0_isLatin1_aae02 : GoodIn wsJ0_charAt_5068e wsJ0_isLatin1_aae02 := goodIn_r _ [6, 7, 8] (by decide +kernel) (by decide +kernel)
set_option maxRecDepth 20000 in
theorem gJ0_charAt_5068e_J0_isLatin1_aae02 : GoodIn wsJ0_charAt_5068e (wsV RJ0 492 RJ0 yJ0_isLatin1_aae02 wsJ0_isLatin1_aae02) := goodIn_app (goodIn_of _ (by decide +kernel)) ggJ0_charAt_5068e_J0_isLatin1_aae02
set_option maxRecDepth 20000 in
theorem ggJ0_charAt_5068e_J1_charAt_3b067 : GoodIn wsJ0_charAt_5068e wsJ1_charAt_3b067 := goodIn_r _ [12, 13, 14, 5, 15, 16, 17, 18, 19, 20] (by decide +kernel) (by decide +kernel)
set_option maxRecDepth 20000 in
theorem gJ0_charAt_5068e_J1_charAt_3b067 : GoodIn wsJ0_charAt_5068e (va_wsS RJ0 495 yJ1_charAt_3b067 wsJ1_charAt_3b067) := goodIn_app (goodIn_of _ (by decide +kernel)) ggJ0_charAt_5068e_J1_charAt_3b067
set_option maxRecDepth 20000 in
theorem ggJ0_charAt_5068e_J2_charAt_3b067 : GoodIn wsJ0_charAt_5068e wsJ2_charAt_3b067 := goodIn_r _ [24, 25, 26, 23, 27, 28, 29, 30, 31, 14, 5, 15, 16, 17, 18, 19, 20, 32, 33, 34, 35, 36, 37] (by decide +kernel) (by decide +kernel)
set_option maxRecDepth 20000 in
theorem gJ0_charAt_5068e_J2_charAt_3b067 : GoodIn wsJ0_charAt_5068e (va_wsS RJ0 498 yJ2_charAt_3b067 wsJ2_charAt_3b067) := goodIn_app (goodIn_of _ (by decide +kernel)) ggJ0_charAt_5068e_J2_charAt_3b067
theorem dJ0_charAt_5068e_0 : decode cJ0_charAt_5068e 0 = .ok (.aload_n 0, 1) := by decide +kernel
theorem dJ0_charAt_5068e_1 : decode cJ0_charAt_5068e 1 = .ok (.invokevirtual 492, 3) := by decide +kernel
theorem dJ0_charAt_5068e_4 : decode cJ0_charAt_5068e 4 = .ok (.ifCond .eq 12, 3) := by decide +kernel
theorem dJ0_charAt_5068e_7 : decode cJ0_charAt_5068e 7 = .ok (.aload_n 0, 1) := by decide +kernel
theorem dJ0_charAt_5068e_8 : decode cJ0_charAt_5068e 8 = .ok (.getfield 9, 3) := by decide +kernel
theorem dJ0_charAt_5068e_11 : decode cJ0_charAt_5068e 11 = .ok (.iload_n 1, 1) := by decide +kernel
theorem dJ0_charAt_5068e_12 : decode cJ0_charAt_5068e 12 = .ok (.invokestatic 495, 3) := by decide +kernel
theorem dJ0_charAt_5068e_15 : decode cJ0_charAt_5068e 15 = .ok (.ireturn, 1) := by decide +kernel
theorem dJ0_charAt_5068e_16 : decode cJ0_charAt_5068e 16 = .ok (.aload_n 0, 1) := by decide +kernel
theorem dJ0_charAt_5068e_17 : decode cJ0_charAt_5068e 17 = .ok (.getfield 9, 3) := by decide +kernel
theorem dJ0_charAt_5068e_20 : decode cJ0_charAt_5068e 20 = .ok (.iload_n 1, 1) := by decide +kernel
theorem dJ0_charAt_5068e_21 : decode cJ0_charAt_5068e 21 = .ok (.invokestatic 498, 3) := by decide +kernel
theorem dJ0_charAt_5068e_24 : decode cJ0_charAt_5068e 24 = .ok (.ireturn, 1) := by decide +kernel
theorem j1c {i r : Int32} (h : s_J1_charAt_3b067 i = some r) : narrow .char (.int r) = .int r := by
  unfold s_J1_charAt_3b067 at h
  obtain ⟨_, _, h⟩ := zb_el h
  obtain ⟨_, h⟩ := ck_el h
  cases h
  exact pk_nc _
def rmJ0_charAt_5068e : Room := { frames := 5, cells := 0, slots := 0, locals := 106 }
theorem zdJ0_charAt_5068e : yJ0_charAt_5068e.cls = RJ0 ∧ yJ0_charAt_5068e.cls ≠ "java/lang/invoke/MethodHandle" ∧ yJ0_charAt_5068e.cls ≠ "java/lang/invoke/VarHandle" ∧ (parseMethodDescriptor yJ0_charAt_5068e.desc).map (fun d => d.parameters.length) = some 1 := by decide +kernel
theorem kfJ0_charAt_5068e_9 : Cond.fieldLink RJ0 9 "java/lang/String" "value" "[B" ∈ wsJ0_charAt_5068e := by decide +kernel
def s_J0_charAt_5068e (a1 : Int32) : Option (Int32) :=
  (s_J0_isLatin1_aae02 ).bind fun r2 => (if r2 = 0 then (none) else ((s_J1_charAt_3b067 a1).bind fun r4 => some r4))
set_option maxRecDepth 100000 in
set_option maxHeartbeats 4000000 in
theorem c_J0_charAt_5068e (l : Launch) (w : ZW) {m : Mem} {a1 : Int32} {r9 : Int32}  (hf : s_J0_charAt_5068e a1 = some r9) : zCi MX l w yJ0_charAt_5068e wsJ0_charAt_5068e rmJ0_charAt_5068e [.ref (w.2.1 101), .int a1] m m r9 := by
  refine z_met_t MX_ok (own := RJ0) (by decide +kernel) rfl rfl (Nat.le_of_ble_eq_true rfl) ?_
  intro K C hKw hKl hret
  subst hKw
  subst hKl
  unfold s_J0_charAt_5068e at hf
  show zGo MX K m [(0, .ref ((zw K).2.1 101)), (1, .int a1)] 0 []
  refine z_aload_n C 0 dJ0_charAt_5068e_0 rfl rfl ?_
  obtain ⟨r2, hc1, hf⟩ := zb_el hf
  refine z_cVs C (c_J0_isLatin1_aae02 _ _ hc1) rfl gJ0_charAt_5068e_J0_isLatin1_aae02 rfl rfl zdJ0_isLatin1_aae02 rfl rfl ⟨Nat.le_of_ble_eq_true rfl, Nat.le_of_ble_eq_true rfl⟩ (Nat.le_of_ble_eq_true rfl) dJ0_charAt_5068e_1 rfl ?_
  refine z_if_eq (tgt := 16) C dJ0_charAt_5068e_4 (by decide) (fun c5 => ?_) (fun c5 => ?_)
  · replace hf := if_t c5 hf
    cases hf
  · replace hf := if_f c5 hf
    refine z_aload_n C 0 dJ0_charAt_5068e_7 rfl rfl ?_
    refine z_strv C kfJ0_charAt_5068e_9 dJ0_charAt_5068e_8 ?_
    refine z_iload_n C 1 dJ0_charAt_5068e_11 rfl rfl ?_
    obtain ⟨r4, hc3, hf⟩ := zb_el hf
    refine z_cSi C (c_J1_charAt_3b067 _ _ hc3) rfl gJ0_charAt_5068e_J1_charAt_3b067 rfl rfl zdJ1_charAt_3b067.2 rfl ⟨Nat.le_of_ble_eq_true rfl, Nat.le_of_ble_eq_true rfl⟩ (Nat.le_of_ble_eq_true rfl) dJ0_charAt_5068e_12 rfl ?_
    cases hf
    exact hret _ _ dJ0_charAt_5068e_15 (j1c hc3)
end
