section
-- ===== PART A: goes FIRST, ahead of the names: the tables' words, and 'selects' of the private methods out of them =====
/-- a private method of a class that the tables say can be made, by its rows of tables_1 -/
def lw_okq (q : MethodName × Nat) : Prop := (q.1.cls ≠ "java/lang/invoke/MethodHandle" ∧ q.1.cls ≠ "java/lang/invoke/VarHandle") ∧ Cond.instantiable q.1.cls q.2 ∈ tables_1 ∧ Cond.privateMethod q.1 ∈ tables_1 ∧ Cond.instanceMethod q.1 ∈ tables_1
theorem lw_p0 : lw_okq (⟨"StageHouse$Tape", "add", "(I)V"⟩, 2) := ⟨⟨by decide +kernel, by decide +kernel⟩, List.mem_of_getElem? (i := 37) (by decide +kernel), List.mem_of_getElem? (i := 413) (by decide +kernel), List.mem_of_getElem? (i := 414) (by decide +kernel)⟩
theorem lw_p1 : lw_okq (⟨"StageHouse$Runner", "actOnSentence", "()V"⟩, 10) := ⟨⟨by decide +kernel, by decide +kernel⟩, List.mem_of_getElem? (i := 340) (by decide +kernel), List.mem_of_getElem? (i := 441) (by decide +kernel), List.mem_of_getElem? (i := 442) (by decide +kernel)⟩
theorem lw_p2 : lw_okq (⟨"StageHouse$Runner", "turn", "(LStageHouse$Slot;)I"⟩, 10) := ⟨⟨by decide +kernel, by decide +kernel⟩, List.mem_of_getElem? (i := 340) (by decide +kernel), List.mem_of_getElem? (i := 481) (by decide +kernel), List.mem_of_getElem? (i := 482) (by decide +kernel)⟩
theorem lw_p3 : lw_okq (⟨"StageHouse$Runner", "comesToOrders", "(LStageHouse$Slot;)Z"⟩, 10) := ⟨⟨by decide +kernel, by decide +kernel⟩, List.mem_of_getElem? (i := 340) (by decide +kernel), List.mem_of_getElem? (i := 485) (by decide +kernel), List.mem_of_getElem? (i := 486) (by decide +kernel)⟩
theorem lw_p4 : lw_okq (⟨"StageHouse$Runner", "openCode", "(I)V"⟩, 10) := ⟨⟨by decide +kernel, by decide +kernel⟩, List.mem_of_getElem? (i := 340) (by decide +kernel), List.mem_of_getElem? (i := 490) (by decide +kernel), List.mem_of_getElem? (i := 491) (by decide +kernel)⟩
theorem lw_p5 : lw_okq (⟨"StageHouse$Runner", "readOrder", "(LStageHouse$Slot;)I"⟩, 10) := ⟨⟨by decide +kernel, by decide +kernel⟩, List.mem_of_getElem? (i := 340) (by decide +kernel), List.mem_of_getElem? (i := 494) (by decide +kernel), List.mem_of_getElem? (i := 495) (by decide +kernel)⟩
theorem lw_p6 : lw_okq (⟨"StageHouse$Runner", "nextByte", "(LStageHouse$Slot;)I"⟩, 10) := ⟨⟨by decide +kernel, by decide +kernel⟩, List.mem_of_getElem? (i := 340) (by decide +kernel), List.mem_of_getElem? (i := 498) (by decide +kernel), List.mem_of_getElem? (i := 499) (by decide +kernel)⟩
theorem lw_p7 : lw_okq (⟨"StageHouse$Runner", "readTarget", "(LStageHouse$Slot;)I"⟩, 10) := ⟨⟨by decide +kernel, by decide +kernel⟩, List.mem_of_getElem? (i := 340) (by decide +kernel), List.mem_of_getElem? (i := 505) (by decide +kernel), List.mem_of_getElem? (i := 506) (by decide +kernel)⟩
theorem lw_p8 : lw_okq (⟨"StageHouse$Runner", "addressOf", "(II)I"⟩, 10) := ⟨⟨by decide +kernel, by decide +kernel⟩, List.mem_of_getElem? (i := 340) (by decide +kernel), List.mem_of_getElem? (i := 509) (by decide +kernel), List.mem_of_getElem? (i := 510) (by decide +kernel)⟩
theorem lw_p9 : lw_okq (⟨"StageHouse$Runner", "readValue", "(LStageHouse$Slot;)I"⟩, 10) := ⟨⟨by decide +kernel, by decide +kernel⟩, List.mem_of_getElem? (i := 340) (by decide +kernel), List.mem_of_getElem? (i := 515) (by decide +kernel), List.mem_of_getElem? (i := 516) (by decide +kernel)⟩
theorem lw_p10 : lw_okq (⟨"StageHouse$Runner", "fetch", "(LStageHouse$Slot;I)I"⟩, 10) := ⟨⟨by decide +kernel, by decide +kernel⟩, List.mem_of_getElem? (i := 340) (by decide +kernel), List.mem_of_getElem? (i := 519) (by decide +kernel), List.mem_of_getElem? (i := 520) (by decide +kernel)⟩
theorem lw_p11 : lw_okq (⟨"StageHouse$Runner", "readJump", "(LStageHouse$Slot;)I"⟩, 10) := ⟨⟨by decide +kernel, by decide +kernel⟩, List.mem_of_getElem? (i := 340) (by decide +kernel), List.mem_of_getElem? (i := 525) (by decide +kernel), List.mem_of_getElem? (i := 526) (by decide +kernel)⟩
theorem lw_p12 : lw_okq (⟨"StageHouse$Runner", "perform", "(LStageHouse$Slot;I)I"⟩, 10) := ⟨⟨by decide +kernel, by decide +kernel⟩, List.mem_of_getElem? (i := 340) (by decide +kernel), List.mem_of_getElem? (i := 529) (by decide +kernel), List.mem_of_getElem? (i := 530) (by decide +kernel)⟩
theorem lw_p13 : lw_okq (⟨"StageHouse$Runner", "goIf", "(LStageHouse$Slot;Z)I"⟩, 10) := ⟨⟨by decide +kernel, by decide +kernel⟩, List.mem_of_getElem? (i := 340) (by decide +kernel), List.mem_of_getElem? (i := 540) (by decide +kernel), List.mem_of_getElem? (i := 541) (by decide +kernel)⟩
theorem lw_p14 : lw_okq (⟨"StageHouse$Runner", "stopScript", "(LStageHouse$Slot;I)I"⟩, 10) := ⟨⟨by decide +kernel, by decide +kernel⟩, List.mem_of_getElem? (i := 340) (by decide +kernel), List.mem_of_getElem? (i := 547) (by decide +kernel), List.mem_of_getElem? (i := 548) (by decide +kernel)⟩
theorem lw_p15 : lw_okq (⟨"StageHouse$Runner", "chain", "(LStageHouse$Slot;I)I"⟩, 10) := ⟨⟨by decide +kernel, by decide +kernel⟩, List.mem_of_getElem? (i := 340) (by decide +kernel), List.mem_of_getElem? (i := 551) (by decide +kernel), List.mem_of_getElem? (i := 552) (by decide +kernel)⟩
def lw_privs_1 : List (MethodName × Nat) := [(⟨"StageHouse$Tape", "add", "(I)V"⟩, 2), (⟨"StageHouse$Runner", "actOnSentence", "()V"⟩, 10), (⟨"StageHouse$Runner", "turn", "(LStageHouse$Slot;)I"⟩, 10), (⟨"StageHouse$Runner", "comesToOrders", "(LStageHouse$Slot;)Z"⟩, 10), (⟨"StageHouse$Runner", "openCode", "(I)V"⟩, 10), (⟨"StageHouse$Runner", "readOrder", "(LStageHouse$Slot;)I"⟩, 10), (⟨"StageHouse$Runner", "nextByte", "(LStageHouse$Slot;)I"⟩, 10), (⟨"StageHouse$Runner", "readTarget", "(LStageHouse$Slot;)I"⟩, 10), (⟨"StageHouse$Runner", "addressOf", "(II)I"⟩, 10), (⟨"StageHouse$Runner", "readValue", "(LStageHouse$Slot;)I"⟩, 10), (⟨"StageHouse$Runner", "fetch", "(LStageHouse$Slot;I)I"⟩, 10), (⟨"StageHouse$Runner", "readJump", "(LStageHouse$Slot;)I"⟩, 10), (⟨"StageHouse$Runner", "perform", "(LStageHouse$Slot;I)I"⟩, 10), (⟨"StageHouse$Runner", "goIf", "(LStageHouse$Slot;Z)I"⟩, 10), (⟨"StageHouse$Runner", "stopScript", "(LStageHouse$Slot;I)I"⟩, 10), (⟨"StageHouse$Runner", "chain", "(LStageHouse$Slot;I)I"⟩, 10)]
theorem lw_r1 : ∀ q ∈ lw_privs_1, lw_okq q := List.forall_mem_cons.mpr ⟨lw_p0, List.forall_mem_cons.mpr ⟨lw_p1, List.forall_mem_cons.mpr ⟨lw_p2, List.forall_mem_cons.mpr ⟨lw_p3, List.forall_mem_cons.mpr ⟨lw_p4, List.forall_mem_cons.mpr ⟨lw_p5, List.forall_mem_cons.mpr ⟨lw_p6, List.forall_mem_cons.mpr ⟨lw_p7, List.forall_mem_cons.mpr ⟨lw_p8, List.forall_mem_cons.mpr ⟨lw_p9, List.forall_mem_cons.mpr ⟨lw_p10, List.forall_mem_cons.mpr ⟨lw_p11, List.forall_mem_cons.mpr ⟨lw_p12, List.forall_mem_cons.mpr ⟨lw_p13, List.forall_mem_cons.mpr ⟨lw_p14, List.forall_mem_cons.mpr ⟨lw_p15, fun _ h => absurd h List.not_mem_nil⟩⟩⟩⟩⟩⟩⟩⟩⟩⟩⟩⟩⟩⟩⟩⟩
theorem lw_p16 : lw_okq (⟨"StageHouse$Runner", "await", "(LStageHouse$Slot;I)I"⟩, 10) := ⟨⟨by decide +kernel, by decide +kernel⟩, List.mem_of_getElem? (i := 340) (by decide +kernel), List.mem_of_getElem? (i := 555) (by decide +kernel), List.mem_of_getElem? (i := 556) (by decide +kernel)⟩
theorem lw_p17 : lw_okq (⟨"StageHouse$Runner", "freezeOthers", "(LStageHouse$Slot;Z)I"⟩, 10) := ⟨⟨by decide +kernel, by decide +kernel⟩, List.mem_of_getElem? (i := 340) (by decide +kernel), List.mem_of_getElem? (i := 567) (by decide +kernel), List.mem_of_getElem? (i := 568) (by decide +kernel)⟩
theorem lw_p18 : lw_okq (⟨"StageHouse$Runner", "askActor", "(LStageHouse$Slot;I)I"⟩, 10) := ⟨⟨by decide +kernel, by decide +kernel⟩, List.mem_of_getElem? (i := 340) (by decide +kernel), List.mem_of_getElem? (i := 571) (by decide +kernel), List.mem_of_getElem? (i := 572) (by decide +kernel)⟩
theorem lw_p19 : lw_okq (⟨"StageHouse$Runner", "store", "(LStageHouse$Slot;I)I"⟩, 10) := ⟨⟨by decide +kernel, by decide +kernel⟩, List.mem_of_getElem? (i := 340) (by decide +kernel), List.mem_of_getElem? (i := 575) (by decide +kernel), List.mem_of_getElem? (i := 576) (by decide +kernel)⟩
theorem lw_p20 : lw_okq (⟨"StageHouse$Runner", "askDistance", "(LStageHouse$Slot;)I"⟩, 10) := ⟨⟨by decide +kernel, by decide +kernel⟩, List.mem_of_getElem? (i := 340) (by decide +kernel), List.mem_of_getElem? (i := 587) (by decide +kernel), List.mem_of_getElem? (i := 588) (by decide +kernel)⟩
theorem lw_p21 : lw_okq (⟨"StageHouse$Runner", "assign", "(LStageHouse$Slot;I)I"⟩, 10) := ⟨⟨by decide +kernel, by decide +kernel⟩, List.mem_of_getElem? (i := 340) (by decide +kernel), List.mem_of_getElem? (i := 598) (by decide +kernel), List.mem_of_getElem? (i := 599) (by decide +kernel)⟩
theorem lw_p22 : lw_okq (⟨"StageHouse$Runner", "changeStage", "(I)I"⟩, 10) := ⟨⟨by decide +kernel, by decide +kernel⟩, List.mem_of_getElem? (i := 340) (by decide +kernel), List.mem_of_getElem? (i := 612) (by decide +kernel), List.mem_of_getElem? (i := 613) (by decide +kernel)⟩
theorem lw_p23 : lw_okq (⟨"StageHouse$Runner", "putActor", "(IIII)I"⟩, 10) := ⟨⟨by decide +kernel, by decide +kernel⟩, List.mem_of_getElem? (i := 340) (by decide +kernel), List.mem_of_getElem? (i := 616) (by decide +kernel), List.mem_of_getElem? (i := 617) (by decide +kernel)⟩
theorem lw_p24 : lw_okq (⟨"StageHouse$Runner", "setSpeed", "(II)I"⟩, 10) := ⟨⟨by decide +kernel, by decide +kernel⟩, List.mem_of_getElem? (i := 340) (by decide +kernel), List.mem_of_getElem? (i := 641) (by decide +kernel), List.mem_of_getElem? (i := 642) (by decide +kernel)⟩
theorem lw_p25 : lw_okq (⟨"StageHouse$Runner", "setState", "(II)I"⟩, 10) := ⟨⟨by decide +kernel, by decide +kernel⟩, List.mem_of_getElem? (i := 340) (by decide +kernel), List.mem_of_getElem? (i := 645) (by decide +kernel), List.mem_of_getElem? (i := 646) (by decide +kernel)⟩
theorem lw_p26 : lw_okq (⟨"StageHouse$Runner", "setOwner", "(II)I"⟩, 10) := ⟨⟨by decide +kernel, by decide +kernel⟩, List.mem_of_getElem? (i := 340) (by decide +kernel), List.mem_of_getElem? (i := 649) (by decide +kernel), List.mem_of_getElem? (i := 650) (by decide +kernel)⟩
theorem lw_p27 : lw_okq (⟨"StageHouse$Runner", "shutBox", "(IIZ)I"⟩, 10) := ⟨⟨by decide +kernel, by decide +kernel⟩, List.mem_of_getElem? (i := 340) (by decide +kernel), List.mem_of_getElem? (i := 653) (by decide +kernel), List.mem_of_getElem? (i := 654) (by decide +kernel)⟩
theorem lw_p28 : lw_okq (⟨"StageHouse$Walker", "step", "(LStageHouse$Actor;)V"⟩, 7) := ⟨⟨by decide +kernel, by decide +kernel⟩, List.mem_of_getElem? (i := 312) (by decide +kernel), List.mem_of_getElem? (i := 669) (by decide +kernel), List.mem_of_getElem? (i := 670) (by decide +kernel)⟩
theorem lw_p29 : lw_okq (⟨"StageHouse$Walker", "findGoal", "(IIII)V"⟩, 7) := ⟨⟨by decide +kernel, by decide +kernel⟩, List.mem_of_getElem? (i := 312) (by decide +kernel), List.mem_of_getElem? (i := 675) (by decide +kernel), List.mem_of_getElem? (i := 676) (by decide +kernel)⟩
theorem lw_p30 : lw_okq (⟨"StageHouse$Walker", "measureFrom", "(II)V"⟩, 7) := ⟨⟨by decide +kernel, by decide +kernel⟩, List.mem_of_getElem? (i := 312) (by decide +kernel), List.mem_of_getElem? (i := 679) (by decide +kernel), List.mem_of_getElem? (i := 680) (by decide +kernel)⟩
theorem lw_p31 : lw_okq (⟨"StageHouse$Walker", "stepTo", "(LStageHouse$Actor;IIII)V"⟩, 7) := ⟨⟨by decide +kernel, by decide +kernel⟩, List.mem_of_getElem? (i := 312) (by decide +kernel), List.mem_of_getElem? (i := 697) (by decide +kernel), List.mem_of_getElem? (i := 698) (by decide +kernel)⟩
def lw_privs_2 : List (MethodName × Nat) := [(⟨"StageHouse$Runner", "await", "(LStageHouse$Slot;I)I"⟩, 10), (⟨"StageHouse$Runner", "freezeOthers", "(LStageHouse$Slot;Z)I"⟩, 10), (⟨"StageHouse$Runner", "askActor", "(LStageHouse$Slot;I)I"⟩, 10), (⟨"StageHouse$Runner", "store", "(LStageHouse$Slot;I)I"⟩, 10), (⟨"StageHouse$Runner", "askDistance", "(LStageHouse$Slot;)I"⟩, 10), (⟨"StageHouse$Runner", "assign", "(LStageHouse$Slot;I)I"⟩, 10), (⟨"StageHouse$Runner", "changeStage", "(I)I"⟩, 10), (⟨"StageHouse$Runner", "putActor", "(IIII)I"⟩, 10), (⟨"StageHouse$Runner", "setSpeed", "(II)I"⟩, 10), (⟨"StageHouse$Runner", "setState", "(II)I"⟩, 10), (⟨"StageHouse$Runner", "setOwner", "(II)I"⟩, 10), (⟨"StageHouse$Runner", "shutBox", "(IIZ)I"⟩, 10), (⟨"StageHouse$Walker", "step", "(LStageHouse$Actor;)V"⟩, 7), (⟨"StageHouse$Walker", "findGoal", "(IIII)V"⟩, 7), (⟨"StageHouse$Walker", "measureFrom", "(II)V"⟩, 7), (⟨"StageHouse$Walker", "stepTo", "(LStageHouse$Actor;IIII)V"⟩, 7)]
theorem lw_r2 : ∀ q ∈ lw_privs_2, lw_okq q := List.forall_mem_cons.mpr ⟨lw_p16, List.forall_mem_cons.mpr ⟨lw_p17, List.forall_mem_cons.mpr ⟨lw_p18, List.forall_mem_cons.mpr ⟨lw_p19, List.forall_mem_cons.mpr ⟨lw_p20, List.forall_mem_cons.mpr ⟨lw_p21, List.forall_mem_cons.mpr ⟨lw_p22, List.forall_mem_cons.mpr ⟨lw_p23, List.forall_mem_cons.mpr ⟨lw_p24, List.forall_mem_cons.mpr ⟨lw_p25, List.forall_mem_cons.mpr ⟨lw_p26, List.forall_mem_cons.mpr ⟨lw_p27, List.forall_mem_cons.mpr ⟨lw_p28, List.forall_mem_cons.mpr ⟨lw_p29, List.forall_mem_cons.mpr ⟨lw_p30, List.forall_mem_cons.mpr ⟨lw_p31, fun _ h => absurd h List.not_mem_nil⟩⟩⟩⟩⟩⟩⟩⟩⟩⟩⟩⟩⟩⟩⟩⟩
theorem lw_p32 : lw_okq (⟨"StageHouse$Walker", "nextBox", "(II)I"⟩, 7) := ⟨⟨by decide +kernel, by decide +kernel⟩, List.mem_of_getElem? (i := 312) (by decide +kernel), List.mem_of_getElem? (i := 704) (by decide +kernel), List.mem_of_getElem? (i := 705) (by decide +kernel)⟩
theorem lw_p33 : lw_okq (⟨"StageHouse$PlayReader", "readMark", "()V"⟩, 6) := ⟨⟨by decide +kernel, by decide +kernel⟩, List.mem_of_getElem? (i := 105) (by decide +kernel), List.mem_of_getElem? (i := 822) (by decide +kernel), List.mem_of_getElem? (i := 823) (by decide +kernel)⟩
theorem lw_p34 : lw_okq (⟨"StageHouse$PlayReader", "fail", "(I)V"⟩, 6) := ⟨⟨by decide +kernel, by decide +kernel⟩, List.mem_of_getElem? (i := 105) (by decide +kernel), List.mem_of_getElem? (i := 829) (by decide +kernel), List.mem_of_getElem? (i := 830) (by decide +kernel)⟩
theorem lw_p35 : lw_okq (⟨"StageHouse$PlayReader", "readBlock", "()V"⟩, 6) := ⟨⟨by decide +kernel, by decide +kernel⟩, List.mem_of_getElem? (i := 105) (by decide +kernel), List.mem_of_getElem? (i := 833) (by decide +kernel), List.mem_of_getElem? (i := 834) (by decide +kernel)⟩
theorem lw_p36 : lw_okq (⟨"StageHouse$PlayReader", "readHead", "(I)Z"⟩, 6) := ⟨⟨by decide +kernel, by decide +kernel⟩, List.mem_of_getElem? (i := 105) (by decide +kernel), List.mem_of_getElem? (i := 837) (by decide +kernel), List.mem_of_getElem? (i := 838) (by decide +kernel)⟩
theorem lw_p37 : lw_okq (⟨"StageHouse$PlayReader", "readRoom", "()V"⟩, 6) := ⟨⟨by decide +kernel, by decide +kernel⟩, List.mem_of_getElem? (i := 105) (by decide +kernel), List.mem_of_getElem? (i := 841) (by decide +kernel), List.mem_of_getElem? (i := 842) (by decide +kernel)⟩
theorem lw_p38 : lw_okq (⟨"StageHouse$PlayReader", "takeNumber", "(LStageHouse$Index;)V"⟩, 6) := ⟨⟨by decide +kernel, by decide +kernel⟩, List.mem_of_getElem? (i := 105) (by decide +kernel), List.mem_of_getElem? (i := 845) (by decide +kernel), List.mem_of_getElem? (i := 846) (by decide +kernel)⟩
theorem lw_p39 : lw_okq (⟨"StageHouse$PlayReader", "peek", "()I"⟩, 6) := ⟨⟨by decide +kernel, by decide +kernel⟩, List.mem_of_getElem? (i := 105) (by decide +kernel), List.mem_of_getElem? (i := 849) (by decide +kernel), List.mem_of_getElem? (i := 850) (by decide +kernel)⟩
theorem lw_p40 : lw_okq (⟨"StageHouse$PlayReader", "take", "(II)I"⟩, 6) := ⟨⟨by decide +kernel, by decide +kernel⟩, List.mem_of_getElem? (i := 105) (by decide +kernel), List.mem_of_getElem? (i := 863) (by decide +kernel), List.mem_of_getElem? (i := 864) (by decide +kernel)⟩
theorem lw_p41 : lw_okq (⟨"StageHouse$PlayReader", "readScript", "()V"⟩, 6) := ⟨⟨by decide +kernel, by decide +kernel⟩, List.mem_of_getElem? (i := 105) (by decide +kernel), List.mem_of_getElem? (i := 867) (by decide +kernel), List.mem_of_getElem? (i := 868) (by decide +kernel)⟩
theorem lw_p42 : lw_okq (⟨"StageHouse$PlayReader", "readObject", "()V"⟩, 6) := ⟨⟨by decide +kernel, by decide +kernel⟩, List.mem_of_getElem? (i := 105) (by decide +kernel), List.mem_of_getElem? (i := 871) (by decide +kernel), List.mem_of_getElem? (i := 872) (by decide +kernel)⟩
theorem lw_p43 : lw_okq (⟨"StageHouse$PlayReader", "takeVerb", "()V"⟩, 6) := ⟨⟨by decide +kernel, by decide +kernel⟩, List.mem_of_getElem? (i := 105) (by decide +kernel), List.mem_of_getElem? (i := 876) (by decide +kernel), List.mem_of_getElem? (i := 877) (by decide +kernel)⟩
theorem lw_p44 : lw_okq (⟨"StageHouse$PlayReader", "readActor", "()V"⟩, 6) := ⟨⟨by decide +kernel, by decide +kernel⟩, List.mem_of_getElem? (i := 105) (by decide +kernel), List.mem_of_getElem? (i := 880) (by decide +kernel), List.mem_of_getElem? (i := 881) (by decide +kernel)⟩
theorem lw_p45 : lw_okq (⟨"java/lang/Throwable", "fillInStackTrace", "(I)Ljava/lang/Throwable;"⟩, 6) := ⟨⟨by decide +kernel, by decide +kernel⟩, List.mem_of_getElem? (i := 921) (by decide +kernel), List.mem_of_getElem? (i := 919) (by decide +kernel), List.mem_of_getElem? (i := 920) (by decide +kernel)⟩
theorem lw_p46 : lw_okq (⟨"StageHouse$Ground", "findNeighbours", "(I)V"⟩, 6) := ⟨⟨by decide +kernel, by decide +kernel⟩, List.mem_of_getElem? (i := 284) (by decide +kernel), List.mem_of_getElem? (i := 978) (by decide +kernel), List.mem_of_getElem? (i := 979) (by decide +kernel)⟩
theorem lw_p47 : lw_okq (⟨"StageHouse$Ground", "touch", "(II)Z"⟩, 6) := ⟨⟨by decide +kernel, by decide +kernel⟩, List.mem_of_getElem? (i := 284) (by decide +kernel), List.mem_of_getElem? (i := 982) (by decide +kernel), List.mem_of_getElem? (i := 983) (by decide +kernel)⟩
def lw_privs_3 : List (MethodName × Nat) := [(⟨"StageHouse$Walker", "nextBox", "(II)I"⟩, 7), (⟨"StageHouse$PlayReader", "readMark", "()V"⟩, 6), (⟨"StageHouse$PlayReader", "fail", "(I)V"⟩, 6), (⟨"StageHouse$PlayReader", "readBlock", "()V"⟩, 6), (⟨"StageHouse$PlayReader", "readHead", "(I)Z"⟩, 6), (⟨"StageHouse$PlayReader", "readRoom", "()V"⟩, 6), (⟨"StageHouse$PlayReader", "takeNumber", "(LStageHouse$Index;)V"⟩, 6), (⟨"StageHouse$PlayReader", "peek", "()I"⟩, 6), (⟨"StageHouse$PlayReader", "take", "(II)I"⟩, 6), (⟨"StageHouse$PlayReader", "readScript", "()V"⟩, 6), (⟨"StageHouse$PlayReader", "readObject", "()V"⟩, 6), (⟨"StageHouse$PlayReader", "takeVerb", "()V"⟩, 6), (⟨"StageHouse$PlayReader", "readActor", "()V"⟩, 6), (⟨"java/lang/Throwable", "fillInStackTrace", "(I)Ljava/lang/Throwable;"⟩, 6), (⟨"StageHouse$Ground", "findNeighbours", "(I)V"⟩, 6), (⟨"StageHouse$Ground", "touch", "(II)Z"⟩, 6)]
theorem lw_r3 : ∀ q ∈ lw_privs_3, lw_okq q := List.forall_mem_cons.mpr ⟨lw_p32, List.forall_mem_cons.mpr ⟨lw_p33, List.forall_mem_cons.mpr ⟨lw_p34, List.forall_mem_cons.mpr ⟨lw_p35, List.forall_mem_cons.mpr ⟨lw_p36, List.forall_mem_cons.mpr ⟨lw_p37, List.forall_mem_cons.mpr ⟨lw_p38, List.forall_mem_cons.mpr ⟨lw_p39, List.forall_mem_cons.mpr ⟨lw_p40, List.forall_mem_cons.mpr ⟨lw_p41, List.forall_mem_cons.mpr ⟨lw_p42, List.forall_mem_cons.mpr ⟨lw_p43, List.forall_mem_cons.mpr ⟨lw_p44, List.forall_mem_cons.mpr ⟨lw_p45, List.forall_mem_cons.mpr ⟨lw_p46, List.forall_mem_cons.mpr ⟨lw_p47, fun _ h => absurd h List.not_mem_nil⟩⟩⟩⟩⟩⟩⟩⟩⟩⟩⟩⟩⟩⟩⟩⟩
theorem lw_p48 : lw_okq (⟨"StageHouse$Stage", "shutBoxes", "(LStageHouse$Play;I)V"⟩, 14) := ⟨⟨by decide +kernel, by decide +kernel⟩, List.mem_of_getElem? (i := 132) (by decide +kernel), List.mem_of_getElem? (i := 998) (by decide +kernel), List.mem_of_getElem? (i := 999) (by decide +kernel)⟩
theorem lw_p49 : lw_okq (⟨"StageHouseModel", "judge", "(I)I"⟩, 40) := ⟨⟨by decide +kernel, by decide +kernel⟩, List.mem_of_getElem? (i := 1082) (by decide +kernel), List.mem_of_getElem? (i := 1225) (by decide +kernel), List.mem_of_getElem? (i := 1226) (by decide +kernel)⟩
theorem lw_p50 : lw_okq (⟨"StageHouseModel", "flaw", "(II)V"⟩, 40) := ⟨⟨by decide +kernel, by decide +kernel⟩, List.mem_of_getElem? (i := 1082) (by decide +kernel), List.mem_of_getElem? (i := 1229) (by decide +kernel), List.mem_of_getElem? (i := 1230) (by decide +kernel)⟩
theorem lw_p51 : lw_okq (⟨"StageHouseModel", "judgeBlock", "(I)V"⟩, 40) := ⟨⟨by decide +kernel, by decide +kernel⟩, List.mem_of_getElem? (i := 1082) (by decide +kernel), List.mem_of_getElem? (i := 1233) (by decide +kernel), List.mem_of_getElem? (i := 1234) (by decide +kernel)⟩
theorem lw_p52 : lw_okq (⟨"StageHouseModel", "judgeRoom", "()V"⟩, 40) := ⟨⟨by decide +kernel, by decide +kernel⟩, List.mem_of_getElem? (i := 1082) (by decide +kernel), List.mem_of_getElem? (i := 1237) (by decide +kernel), List.mem_of_getElem? (i := 1238) (by decide +kernel)⟩
theorem lw_p53 : lw_okq (⟨"StageHouseModel", "names", "(II)V"⟩, 40) := ⟨⟨by decide +kernel, by decide +kernel⟩, List.mem_of_getElem? (i := 1082) (by decide +kernel), List.mem_of_getElem? (i := 1241) (by decide +kernel), List.mem_of_getElem? (i := 1242) (by decide +kernel)⟩
theorem lw_p54 : lw_okq (⟨"StageHouseModel", "wants", "(II)I"⟩, 40) := ⟨⟨by decide +kernel, by decide +kernel⟩, List.mem_of_getElem? (i := 1082) (by decide +kernel), List.mem_of_getElem? (i := 1245) (by decide +kernel), List.mem_of_getElem? (i := 1246) (by decide +kernel)⟩
theorem lw_p55 : lw_okq (⟨"StageHouseModel", "judgeObject", "()V"⟩, 40) := ⟨⟨by decide +kernel, by decide +kernel⟩, List.mem_of_getElem? (i := 1082) (by decide +kernel), List.mem_of_getElem? (i := 1249) (by decide +kernel), List.mem_of_getElem? (i := 1250) (by decide +kernel)⟩
theorem lw_p56 : lw_okq (⟨"StageHouseModel", "refuse", "()I"⟩, 40) := ⟨⟨by decide +kernel, by decide +kernel⟩, List.mem_of_getElem? (i := 1082) (by decide +kernel), List.mem_of_getElem? (i := 1253) (by decide +kernel), List.mem_of_getElem? (i := 1254) (by decide +kernel)⟩
theorem lw_p57 : lw_okq (⟨"StageHouseModel", "forget", "()V"⟩, 40) := ⟨⟨by decide +kernel, by decide +kernel⟩, List.mem_of_getElem? (i := 1082) (by decide +kernel), List.mem_of_getElem? (i := 1257) (by decide +kernel), List.mem_of_getElem? (i := 1258) (by decide +kernel)⟩
theorem lw_p58 : lw_okq (⟨"StageHouseModel", "load", "(I)V"⟩, 40) := ⟨⟨by decide +kernel, by decide +kernel⟩, List.mem_of_getElem? (i := 1082) (by decide +kernel), List.mem_of_getElem? (i := 1261) (by decide +kernel), List.mem_of_getElem? (i := 1262) (by decide +kernel)⟩
theorem lw_p59 : lw_okq (⟨"StageHouseModel", "one", "()I"⟩, 40) := ⟨⟨by decide +kernel, by decide +kernel⟩, List.mem_of_getElem? (i := 1082) (by decide +kernel), List.mem_of_getElem? (i := 1274) (by decide +kernel), List.mem_of_getElem? (i := 1275) (by decide +kernel)⟩
theorem lw_p60 : lw_okq (⟨"StageHouseModel", "isAtSentence", "()Z"⟩, 40) := ⟨⟨by decide +kernel, by decide +kernel⟩, List.mem_of_getElem? (i := 1082) (by decide +kernel), List.mem_of_getElem? (i := 1278) (by decide +kernel), List.mem_of_getElem? (i := 1279) (by decide +kernel)⟩
theorem lw_p61 : lw_okq (⟨"StageHouseModel", "of", "(II)I"⟩, 40) := ⟨⟨by decide +kernel, by decide +kernel⟩, List.mem_of_getElem? (i := 1082) (by decide +kernel), List.mem_of_getElem? (i := 1282) (by decide +kernel), List.mem_of_getElem? (i := 1283) (by decide +kernel)⟩
theorem lw_p62 : lw_okq (⟨"StageHouseModel", "takesSentence", "()V"⟩, 40) := ⟨⟨by decide +kernel, by decide +kernel⟩, List.mem_of_getElem? (i := 1082) (by decide +kernel), List.mem_of_getElem? (i := 1286) (by decide +kernel), List.mem_of_getElem? (i := 1287) (by decide +kernel)⟩
theorem lw_p63 : lw_okq (⟨"StageHouseModel", "isObject", "(I)Z"⟩, 40) := ⟨⟨by decide +kernel, by decide +kernel⟩, List.mem_of_getElem? (i := 1082) (by decide +kernel), List.mem_of_getElem? (i := 1290) (by decide +kernel), List.mem_of_getElem? (i := 1291) (by decide +kernel)⟩
def lw_privs_4 : List (MethodName × Nat) := [(⟨"StageHouse$Stage", "shutBoxes", "(LStageHouse$Play;I)V"⟩, 14), (⟨"StageHouseModel", "judge", "(I)I"⟩, 40), (⟨"StageHouseModel", "flaw", "(II)V"⟩, 40), (⟨"StageHouseModel", "judgeBlock", "(I)V"⟩, 40), (⟨"StageHouseModel", "judgeRoom", "()V"⟩, 40), (⟨"StageHouseModel", "names", "(II)V"⟩, 40), (⟨"StageHouseModel", "wants", "(II)I"⟩, 40), (⟨"StageHouseModel", "judgeObject", "()V"⟩, 40), (⟨"StageHouseModel", "refuse", "()I"⟩, 40), (⟨"StageHouseModel", "forget", "()V"⟩, 40), (⟨"StageHouseModel", "load", "(I)V"⟩, 40), (⟨"StageHouseModel", "one", "()I"⟩, 40), (⟨"StageHouseModel", "isAtSentence", "()Z"⟩, 40), (⟨"StageHouseModel", "of", "(II)I"⟩, 40), (⟨"StageHouseModel", "takesSentence", "()V"⟩, 40), (⟨"StageHouseModel", "isObject", "(I)Z"⟩, 40)]
theorem lw_r4 : ∀ q ∈ lw_privs_4, lw_okq q := List.forall_mem_cons.mpr ⟨lw_p48, List.forall_mem_cons.mpr ⟨lw_p49, List.forall_mem_cons.mpr ⟨lw_p50, List.forall_mem_cons.mpr ⟨lw_p51, List.forall_mem_cons.mpr ⟨lw_p52, List.forall_mem_cons.mpr ⟨lw_p53, List.forall_mem_cons.mpr ⟨lw_p54, List.forall_mem_cons.mpr ⟨lw_p55, List.forall_mem_cons.mpr ⟨lw_p56, List.forall_mem_cons.mpr ⟨lw_p57, List.forall_mem_cons.mpr ⟨lw_p58, List.forall_mem_cons.mpr ⟨lw_p59, List.forall_mem_cons.mpr ⟨lw_p60, List.forall_mem_cons.mpr ⟨lw_p61, List.forall_mem_cons.mpr ⟨lw_p62, List.forall_mem_cons.mpr ⟨lw_p63, fun _ h => absurd h List.not_mem_nil⟩⟩⟩⟩⟩⟩⟩⟩⟩⟩⟩⟩⟩⟩⟩⟩
theorem lw_p64 : lw_okq (⟨"StageHouseModel", "scriptOf", "(II)I"⟩, 40) := ⟨⟨by decide +kernel, by decide +kernel⟩, List.mem_of_getElem? (i := 1082) (by decide +kernel), List.mem_of_getElem? (i := 1295) (by decide +kernel), List.mem_of_getElem? (i := 1296) (by decide +kernel)⟩
theorem lw_p65 : lw_okq (⟨"StageHouseModel", "started", "(I)I"⟩, 40) := ⟨⟨by decide +kernel, by decide +kernel⟩, List.mem_of_getElem? (i := 1082) (by decide +kernel), List.mem_of_getElem? (i := 1299) (by decide +kernel), List.mem_of_getElem? (i := 1300) (by decide +kernel)⟩
theorem lw_p66 : lw_okq (⟨"StageHouseModel", "isScript", "(I)Z"⟩, 40) := ⟨⟨by decide +kernel, by decide +kernel⟩, List.mem_of_getElem? (i := 1082) (by decide +kernel), List.mem_of_getElem? (i := 1303) (by decide +kernel), List.mem_of_getElem? (i := 1304) (by decide +kernel)⟩
theorem lw_p67 : lw_okq (⟨"StageHouseModel", "frees", "(I)V"⟩, 40) := ⟨⟨by decide +kernel, by decide +kernel⟩, List.mem_of_getElem? (i := 1082) (by decide +kernel), List.mem_of_getElem? (i := 1307) (by decide +kernel), List.mem_of_getElem? (i := 1308) (by decide +kernel)⟩
theorem lw_p68 : lw_okq (⟨"StageHouseModel", "to", "(III)V"⟩, 40) := ⟨⟨by decide +kernel, by decide +kernel⟩, List.mem_of_getElem? (i := 1082) (by decide +kernel), List.mem_of_getElem? (i := 1311) (by decide +kernel), List.mem_of_getElem? (i := 1312) (by decide +kernel)⟩
theorem lw_p69 : lw_okq (⟨"StageHouseModel", "turn", "(I)I"⟩, 40) := ⟨⟨by decide +kernel, by decide +kernel⟩, List.mem_of_getElem? (i := 1082) (by decide +kernel), List.mem_of_getElem? (i := 1315) (by decide +kernel), List.mem_of_getElem? (i := 1316) (by decide +kernel)⟩
theorem lw_p70 : lw_okq (⟨"StageHouseModel", "actorOf", "(II)I"⟩, 40) := ⟨⟨by decide +kernel, by decide +kernel⟩, List.mem_of_getElem? (i := 1082) (by decide +kernel), List.mem_of_getElem? (i := 1319) (by decide +kernel), List.mem_of_getElem? (i := 1320) (by decide +kernel)⟩
theorem lw_p71 : lw_okq (⟨"StageHouseModel", "byteOf", "()I"⟩, 40) := ⟨⟨by decide +kernel, by decide +kernel⟩, List.mem_of_getElem? (i := 1082) (by decide +kernel), List.mem_of_getElem? (i := 1323) (by decide +kernel), List.mem_of_getElem? (i := 1324) (by decide +kernel)⟩
theorem lw_p72 : lw_okq (⟨"StageHouseModel", "readOrder", "(I)V"⟩, 40) := ⟨⟨by decide +kernel, by decide +kernel⟩, List.mem_of_getElem? (i := 1082) (by decide +kernel), List.mem_of_getElem? (i := 1327) (by decide +kernel), List.mem_of_getElem? (i := 1328) (by decide +kernel)⟩
theorem lw_p73 : lw_okq (⟨"StageHouseModel", "reads", "(ZIZ)V"⟩, 40) := ⟨⟨by decide +kernel, by decide +kernel⟩, List.mem_of_getElem? (i := 1082) (by decide +kernel), List.mem_of_getElem? (i := 1331) (by decide +kernel), List.mem_of_getElem? (i := 1332) (by decide +kernel)⟩
theorem lw_p74 : lw_okq (⟨"StageHouseModel", "target", "()I"⟩, 40) := ⟨⟨by decide +kernel, by decide +kernel⟩, List.mem_of_getElem? (i := 1082) (by decide +kernel), List.mem_of_getElem? (i := 1335) (by decide +kernel), List.mem_of_getElem? (i := 1336) (by decide +kernel)⟩
theorem lw_p75 : lw_okq (⟨"StageHouseModel", "named", "(I)I"⟩, 40) := ⟨⟨by decide +kernel, by decide +kernel⟩, List.mem_of_getElem? (i := 1082) (by decide +kernel), List.mem_of_getElem? (i := 1340) (by decide +kernel), List.mem_of_getElem? (i := 1341) (by decide +kernel)⟩
theorem lw_p76 : lw_okq (⟨"StageHouseModel", "value", "()I"⟩, 40) := ⟨⟨by decide +kernel, by decide +kernel⟩, List.mem_of_getElem? (i := 1082) (by decide +kernel), List.mem_of_getElem? (i := 1346) (by decide +kernel), List.mem_of_getElem? (i := 1347) (by decide +kernel)⟩
theorem lw_p77 : lw_okq (⟨"StageHouseModel", "count2", "()I"⟩, 40) := ⟨⟨by decide +kernel, by decide +kernel⟩, List.mem_of_getElem? (i := 1082) (by decide +kernel), List.mem_of_getElem? (i := 1350) (by decide +kernel), List.mem_of_getElem? (i := 1351) (by decide +kernel)⟩
theorem lw_p78 : lw_okq (⟨"StageHouseModel", "jump", "()I"⟩, 40) := ⟨⟨by decide +kernel, by decide +kernel⟩, List.mem_of_getElem? (i := 1082) (by decide +kernel), List.mem_of_getElem? (i := 1354) (by decide +kernel), List.mem_of_getElem? (i := 1355) (by decide +kernel)⟩
theorem lw_p79 : lw_okq (⟨"StageHouseModel", "may", "(I)Z"⟩, 40) := ⟨⟨by decide +kernel, by decide +kernel⟩, List.mem_of_getElem? (i := 1082) (by decide +kernel), List.mem_of_getElem? (i := 1361) (by decide +kernel), List.mem_of_getElem? (i := 1362) (by decide +kernel)⟩
def lw_privs_5 : List (MethodName × Nat) := [(⟨"StageHouseModel", "scriptOf", "(II)I"⟩, 40), (⟨"StageHouseModel", "started", "(I)I"⟩, 40), (⟨"StageHouseModel", "isScript", "(I)Z"⟩, 40), (⟨"StageHouseModel", "frees", "(I)V"⟩, 40), (⟨"StageHouseModel", "to", "(III)V"⟩, 40), (⟨"StageHouseModel", "turn", "(I)I"⟩, 40), (⟨"StageHouseModel", "actorOf", "(II)I"⟩, 40), (⟨"StageHouseModel", "byteOf", "()I"⟩, 40), (⟨"StageHouseModel", "readOrder", "(I)V"⟩, 40), (⟨"StageHouseModel", "reads", "(ZIZ)V"⟩, 40), (⟨"StageHouseModel", "target", "()I"⟩, 40), (⟨"StageHouseModel", "named", "(I)I"⟩, 40), (⟨"StageHouseModel", "value", "()I"⟩, 40), (⟨"StageHouseModel", "count2", "()I"⟩, 40), (⟨"StageHouseModel", "jump", "()I"⟩, 40), (⟨"StageHouseModel", "may", "(I)Z"⟩, 40)]
theorem lw_r5 : ∀ q ∈ lw_privs_5, lw_okq q := List.forall_mem_cons.mpr ⟨lw_p64, List.forall_mem_cons.mpr ⟨lw_p65, List.forall_mem_cons.mpr ⟨lw_p66, List.forall_mem_cons.mpr ⟨lw_p67, List.forall_mem_cons.mpr ⟨lw_p68, List.forall_mem_cons.mpr ⟨lw_p69, List.forall_mem_cons.mpr ⟨lw_p70, List.forall_mem_cons.mpr ⟨lw_p71, List.forall_mem_cons.mpr ⟨lw_p72, List.forall_mem_cons.mpr ⟨lw_p73, List.forall_mem_cons.mpr ⟨lw_p74, List.forall_mem_cons.mpr ⟨lw_p75, List.forall_mem_cons.mpr ⟨lw_p76, List.forall_mem_cons.mpr ⟨lw_p77, List.forall_mem_cons.mpr ⟨lw_p78, List.forall_mem_cons.mpr ⟨lw_p79, fun _ h => absurd h List.not_mem_nil⟩⟩⟩⟩⟩⟩⟩⟩⟩⟩⟩⟩⟩⟩⟩⟩
theorem lw_p80 : lw_okq (⟨"StageHouseModel", "isActor", "(I)Z"⟩, 40) := ⟨⟨by decide +kernel, by decide +kernel⟩, List.mem_of_getElem? (i := 1082) (by decide +kernel), List.mem_of_getElem? (i := 1365) (by decide +kernel), List.mem_of_getElem? (i := 1366) (by decide +kernel)⟩
theorem lw_p81 : lw_okq (⟨"StageHouseModel", "isBox", "(II)Z"⟩, 40) := ⟨⟨by decide +kernel, by decide +kernel⟩, List.mem_of_getElem? (i := 1082) (by decide +kernel), List.mem_of_getElem? (i := 1376) (by decide +kernel), List.mem_of_getElem? (i := 1377) (by decide +kernel)⟩
theorem lw_p82 : lw_okq (⟨"StageHouseModel", "does", "(I)Z"⟩, 40) := ⟨⟨by decide +kernel, by decide +kernel⟩, List.mem_of_getElem? (i := 1082) (by decide +kernel), List.mem_of_getElem? (i := 1380) (by decide +kernel), List.mem_of_getElem? (i := 1381) (by decide +kernel)⟩
theorem lw_p83 : lw_okq (⟨"StageHouseModel", "stops", "()Z"⟩, 40) := ⟨⟨by decide +kernel, by decide +kernel⟩, List.mem_of_getElem? (i := 1082) (by decide +kernel), List.mem_of_getElem? (i := 1385) (by decide +kernel), List.mem_of_getElem? (i := 1386) (by decide +kernel)⟩
theorem lw_p84 : lw_okq (⟨"StageHouseModel", "changes", "()Z"⟩, 40) := ⟨⟨by decide +kernel, by decide +kernel⟩, List.mem_of_getElem? (i := 1082) (by decide +kernel), List.mem_of_getElem? (i := 1389) (by decide +kernel), List.mem_of_getElem? (i := 1390) (by decide +kernel)⟩
theorem lw_p85 : lw_okq (⟨"StageHouseModel", "acts", "(I)V"⟩, 40) := ⟨⟨by decide +kernel, by decide +kernel⟩, List.mem_of_getElem? (i := 1082) (by decide +kernel), List.mem_of_getElem? (i := 1395) (by decide +kernel), List.mem_of_getElem? (i := 1396) (by decide +kernel)⟩
theorem lw_p86 : lw_okq (⟨"StageHouseModel", "actorTo", "(III)V"⟩, 40) := ⟨⟨by decide +kernel, by decide +kernel⟩, List.mem_of_getElem? (i := 1082) (by decide +kernel), List.mem_of_getElem? (i := 1399) (by decide +kernel), List.mem_of_getElem? (i := 1400) (by decide +kernel)⟩
theorem lw_p87 : lw_okq (⟨"StageHouseModel", "walks", "(III)V"⟩, 40) := ⟨⟨by decide +kernel, by decide +kernel⟩, List.mem_of_getElem? (i := 1082) (by decide +kernel), List.mem_of_getElem? (i := 1403) (by decide +kernel), List.mem_of_getElem? (i := 1404) (by decide +kernel)⟩
theorem lw_p88 : lw_okq (⟨"StageHouseModel", "says", "(III)I"⟩, 40) := ⟨⟨by decide +kernel, by decide +kernel⟩, List.mem_of_getElem? (i := 1082) (by decide +kernel), List.mem_of_getElem? (i := 1407) (by decide +kernel), List.mem_of_getElem? (i := 1408) (by decide +kernel)⟩
theorem lw_p89 : lw_okq (⟨"StageHouseModel", "answer", "(I)I"⟩, 40) := ⟨⟨by decide +kernel, by decide +kernel⟩, List.mem_of_getElem? (i := 1082) (by decide +kernel), List.mem_of_getElem? (i := 1411) (by decide +kernel), List.mem_of_getElem? (i := 1412) (by decide +kernel)⟩
theorem lw_p90 : lw_okq (⟨"StageHouseModel", "boxOf", "(I)I"⟩, 40) := ⟨⟨by decide +kernel, by decide +kernel⟩, List.mem_of_getElem? (i := 1082) (by decide +kernel), List.mem_of_getElem? (i := 1415) (by decide +kernel), List.mem_of_getElem? (i := 1416) (by decide +kernel)⟩
theorem lw_p91 : lw_okq (⟨"StageHouseModel", "boxAt", "(III)I"⟩, 40) := ⟨⟨by decide +kernel, by decide +kernel⟩, List.mem_of_getElem? (i := 1082) (by decide +kernel), List.mem_of_getElem? (i := 1419) (by decide +kernel), List.mem_of_getElem? (i := 1420) (by decide +kernel)⟩
theorem lw_p92 : lw_okq (⟨"StageHouseModel", "isOpen", "(II)Z"⟩, 40) := ⟨⟨by decide +kernel, by decide +kernel⟩, List.mem_of_getElem? (i := 1082) (by decide +kernel), List.mem_of_getElem? (i := 1423) (by decide +kernel), List.mem_of_getElem? (i := 1424) (by decide +kernel)⟩
theorem lw_p93 : lw_okq (⟨"StageHouseModel", "has", "(IIII)Z"⟩, 40) := ⟨⟨by decide +kernel, by decide +kernel⟩, List.mem_of_getElem? (i := 1082) (by decide +kernel), List.mem_of_getElem? (i := 1427) (by decide +kernel), List.mem_of_getElem? (i := 1428) (by decide +kernel)⟩
theorem lw_p94 : lw_okq (⟨"StageHouseModel", "side", "(III)I"⟩, 40) := ⟨⟨by decide +kernel, by decide +kernel⟩, List.mem_of_getElem? (i := 1082) (by decide +kernel), List.mem_of_getElem? (i := 1431) (by decide +kernel), List.mem_of_getElem? (i := 1432) (by decide +kernel)⟩
theorem lw_p95 : lw_okq (⟨"StageHouseModel", "running", "(I)I"⟩, 40) := ⟨⟨by decide +kernel, by decide +kernel⟩, List.mem_of_getElem? (i := 1082) (by decide +kernel), List.mem_of_getElem? (i := 1435) (by decide +kernel), List.mem_of_getElem? (i := 1436) (by decide +kernel)⟩
def lw_privs_6 : List (MethodName × Nat) := [(⟨"StageHouseModel", "isActor", "(I)Z"⟩, 40), (⟨"StageHouseModel", "isBox", "(II)Z"⟩, 40), (⟨"StageHouseModel", "does", "(I)Z"⟩, 40), (⟨"StageHouseModel", "stops", "()Z"⟩, 40), (⟨"StageHouseModel", "changes", "()Z"⟩, 40), (⟨"StageHouseModel", "acts", "(I)V"⟩, 40), (⟨"StageHouseModel", "actorTo", "(III)V"⟩, 40), (⟨"StageHouseModel", "walks", "(III)V"⟩, 40), (⟨"StageHouseModel", "says", "(III)I"⟩, 40), (⟨"StageHouseModel", "answer", "(I)I"⟩, 40), (⟨"StageHouseModel", "boxOf", "(I)I"⟩, 40), (⟨"StageHouseModel", "boxAt", "(III)I"⟩, 40), (⟨"StageHouseModel", "isOpen", "(II)Z"⟩, 40), (⟨"StageHouseModel", "has", "(IIII)Z"⟩, 40), (⟨"StageHouseModel", "side", "(III)I"⟩, 40), (⟨"StageHouseModel", "running", "(I)I"⟩, 40)]
theorem lw_r6 : ∀ q ∈ lw_privs_6, lw_okq q := List.forall_mem_cons.mpr ⟨lw_p80, List.forall_mem_cons.mpr ⟨lw_p81, List.forall_mem_cons.mpr ⟨lw_p82, List.forall_mem_cons.mpr ⟨lw_p83, List.forall_mem_cons.mpr ⟨lw_p84, List.forall_mem_cons.mpr ⟨lw_p85, List.forall_mem_cons.mpr ⟨lw_p86, List.forall_mem_cons.mpr ⟨lw_p87, List.forall_mem_cons.mpr ⟨lw_p88, List.forall_mem_cons.mpr ⟨lw_p89, List.forall_mem_cons.mpr ⟨lw_p90, List.forall_mem_cons.mpr ⟨lw_p91, List.forall_mem_cons.mpr ⟨lw_p92, List.forall_mem_cons.mpr ⟨lw_p93, List.forall_mem_cons.mpr ⟨lw_p94, List.forall_mem_cons.mpr ⟨lw_p95, fun _ h => absurd h List.not_mem_nil⟩⟩⟩⟩⟩⟩⟩⟩⟩⟩⟩⟩⟩⟩⟩⟩
theorem lw_p96 : lw_okq (⟨"StageHouseModel", "step", "(I)V"⟩, 40) := ⟨⟨by decide +kernel, by decide +kernel⟩, List.mem_of_getElem? (i := 1082) (by decide +kernel), List.mem_of_getElem? (i := 1442) (by decide +kernel), List.mem_of_getElem? (i := 1443) (by decide +kernel)⟩
theorem lw_p97 : lw_okq (⟨"StageHouseModel", "goals", "(IIII)V"⟩, 40) := ⟨⟨by decide +kernel, by decide +kernel⟩, List.mem_of_getElem? (i := 1082) (by decide +kernel), List.mem_of_getElem? (i := 1446) (by decide +kernel), List.mem_of_getElem? (i := 1447) (by decide +kernel)⟩
theorem lw_p98 : lw_okq (⟨"StageHouseModel", "ways", "(II)V"⟩, 40) := ⟨⟨by decide +kernel, by decide +kernel⟩, List.mem_of_getElem? (i := 1082) (by decide +kernel), List.mem_of_getElem? (i := 1450) (by decide +kernel), List.mem_of_getElem? (i := 1451) (by decide +kernel)⟩
theorem lw_p99 : lw_okq (⟨"StageHouseModel", "near", "(III)Z"⟩, 40) := ⟨⟨by decide +kernel, by decide +kernel⟩, List.mem_of_getElem? (i := 1082) (by decide +kernel), List.mem_of_getElem? (i := 1454) (by decide +kernel), List.mem_of_getElem? (i := 1455) (by decide +kernel)⟩
def lw_privs_7 : List (MethodName × Nat) := [(⟨"StageHouseModel", "step", "(I)V"⟩, 40), (⟨"StageHouseModel", "goals", "(IIII)V"⟩, 40), (⟨"StageHouseModel", "ways", "(II)V"⟩, 40), (⟨"StageHouseModel", "near", "(III)Z"⟩, 40)]
theorem lw_r7 : ∀ q ∈ lw_privs_7, lw_okq q := List.forall_mem_cons.mpr ⟨lw_p96, List.forall_mem_cons.mpr ⟨lw_p97, List.forall_mem_cons.mpr ⟨lw_p98, List.forall_mem_cons.mpr ⟨lw_p99, fun _ h => absurd h List.not_mem_nil⟩⟩⟩⟩
def lw_privs : List (MethodName × Nat) := lw_privs_1 ++ (lw_privs_2 ++ (lw_privs_3 ++ (lw_privs_4 ++ (lw_privs_5 ++ (lw_privs_6 ++ (lw_privs_7))))))
def lw_tbl : List Cond := k2_sels lw_privs ++ tables_1
theorem lw_privs_ok : ∀ q ∈ lw_privs, lw_okq q := by
  show ∀ q ∈ lw_privs_1 ++ (lw_privs_2 ++ (lw_privs_3 ++ (lw_privs_4 ++ (lw_privs_5 ++ (lw_privs_6 ++ (lw_privs_7)))))), lw_okq q
  exact List.forall_mem_append.mpr ⟨lw_r1, List.forall_mem_append.mpr ⟨lw_r2, List.forall_mem_append.mpr ⟨lw_r3, List.forall_mem_append.mpr ⟨lw_r4, List.forall_mem_append.mpr ⟨lw_r5, List.forall_mem_append.mpr ⟨lw_r6, lw_r7⟩⟩⟩⟩⟩⟩
-- ===== end of PART A; then your names; then what follows =====
end
section
def RX0 : String := "StageHouse$Actor"
def TX0 : u_T := fun k => match k with
  | 0 => ("StageHouse$Actor", "room", "I", false)
  | 1 => ("StageHouse$Actor", "x", "I", false)
  | 2 => ("StageHouse$Actor", "y", "I", false)
  | 3 => ("StageHouse$Actor", "speed", "I", false)
  | 4 => ("StageHouse$Actor", "walks", "Z", false)
  | 5 => ("StageHouse$Actor", "toX", "I", false)
  | _ => ("StageHouse$Actor", "toY", "I", false)
def tyX0 : Nat → FieldType := fun k => match k with
  | 0 => .int
  | 1 => .int
  | 2 => .int
  | 3 => .int
  | 4 => .boolean
  | 5 => .int
  | _ => .int
theorem nmX0 : ∀ a, a < 7 → ∀ b, b < 7 → a ≠ b → (TX0 a).2.1 ≠ (TX0 b).2.1 := by decide +kernel
theorem tyX0_ok : ∀ k, k < 7 → parseFieldDescriptor (TX0 k).2.2.1 = some (tyX0 k) := by decide +kernel
abbrev cX0_init : ByteArray := prog_2_method_1_code
def yX0_init : MethodName := ⟨RX0, "<init>", "()V"⟩
abbrev cX0_putAt : ByteArray := prog_2_method_2_code
def yX0_putAt : MethodName := ⟨RX0, "putAt", "(III)V"⟩
abbrev cX0_walkTo : ByteArray := prog_2_method_3_code
def yX0_walkTo : MethodName := ⟨RX0, "walkTo", "(II)V"⟩
abbrev cX0_halt : ByteArray := prog_2_method_4_code
def yX0_halt : MethodName := ⟨RX0, "halt", "()V"⟩
abbrev cX0_copyFrom : ByteArray := prog_2_method_5_code
def yX0_copyFrom : MethodName := ⟨RX0, "copyFrom", "(LStageHouse$Actor;)V"⟩
abbrev cX0_number : ByteArray := prog_2_method_6_code
def yX0_number : MethodName := ⟨RX0, "number", "(I)I"⟩
def RX1 : String := "StageHouse$Ground"
def TX1 : u_T := fun k => match k with
  | 0 => ("StageHouse$Ground", "counts", "[I", true)
  | 1 => ("StageHouse$Ground", "x0", "[I", true)
  | 2 => ("StageHouse$Ground", "y0", "[I", true)
  | 3 => ("StageHouse$Ground", "x1", "[I", true)
  | 4 => ("StageHouse$Ground", "y1", "[I", true)
  | _ => ("StageHouse$Ground", "near", "[I", true)
def tyX1 : Nat → FieldType := fun k => match k with
  | 0 => .array .int
  | 1 => .array .int
  | 2 => .array .int
  | 3 => .array .int
  | 4 => .array .int
  | _ => .array .int
theorem nmX1 : ∀ a, a < 6 → ∀ b, b < 6 → a ≠ b → (TX1 a).2.1 ≠ (TX1 b).2.1 := by decide +kernel
theorem tyX1_ok : ∀ k, k < 6 → parseFieldDescriptor (TX1 k).2.2.1 = some (tyX1 k) := by decide +kernel
abbrev cX1_init : ByteArray := prog_3_method_1_code
def yX1_init : MethodName := ⟨RX1, "<init>", "()V"⟩
abbrev cX1_lay : ByteArray := prog_3_method_2_code
def yX1_lay : MethodName := ⟨RX1, "lay", "(LStageHouse$Play;)V"⟩
abbrev cX1_findNeighbours : ByteArray := prog_3_method_3_code
def yX1_findNeighbours : MethodName := ⟨RX1, "findNeighbours", "(I)V"⟩
abbrev cX1_touch : ByteArray := prog_3_method_4_code
def yX1_touch : MethodName := ⟨RX1, "touch", "(II)Z"⟩
abbrev cX1_hasBox : ByteArray := prog_3_method_5_code
def yX1_hasBox : MethodName := ⟨RX1, "hasBox", "(II)Z"⟩
abbrev cX1_corner : ByteArray := prog_3_method_6_code
def yX1_corner : MethodName := ⟨RX1, "corner", "(III)I"⟩
abbrev cX1_hasPoint : ByteArray := prog_3_method_7_code
def yX1_hasPoint : MethodName := ⟨RX1, "hasPoint", "(IIII)Z"⟩
abbrev cX1_nearestX : ByteArray := prog_3_method_8_code
def yX1_nearestX : MethodName := ⟨RX1, "nearestX", "(III)I"⟩
abbrev cX1_nearestY : ByteArray := prog_3_method_9_code
def yX1_nearestY : MethodName := ⟨RX1, "nearestY", "(III)I"⟩
def RX2 : String := "StageHouse$Index"
def TX2 : u_T := fun k => match k with
  | 0 => ("StageHouse$Index", "places", "[I", true)
  | 1 => ("StageHouse$Index", "ends", "[I", true)
  | _ => ("StageHouse$Index", "size", "I", false)
def tyX2 : Nat → FieldType := fun k => match k with
  | 0 => .array .int
  | 1 => .array .int
  | _ => .int
theorem nmX2 : ∀ a, a < 3 → ∀ b, b < 3 → a ≠ b → (TX2 a).2.1 ≠ (TX2 b).2.1 := by decide +kernel
theorem tyX2_ok : ∀ k, k < 3 → parseFieldDescriptor (TX2 k).2.2.1 = some (tyX2 k) := by decide +kernel
abbrev cX2_init : ByteArray := prog_4_method_1_code
def yX2_init : MethodName := ⟨RX2, "<init>", "(I)V"⟩
abbrev cX2_isNumber : ByteArray := prog_4_method_2_code
def yX2_isNumber : MethodName := ⟨RX2, "isNumber", "(I)Z"⟩
abbrev cX2_has : ByteArray := prog_4_method_3_code
def yX2_has : MethodName := ⟨RX2, "has", "(I)Z"⟩
abbrev cX2_put : ByteArray := prog_4_method_4_code
def yX2_put : MethodName := ⟨RX2, "put", "(III)V"⟩
abbrev cX2_clear : ByteArray := prog_4_method_5_code
def yX2_clear : MethodName := ⟨RX2, "clear", "()V"⟩
abbrev cX2_copyFrom : ByteArray := prog_4_method_6_code
def yX2_copyFrom : MethodName := ⟨RX2, "copyFrom", "(LStageHouse$Index;)V"⟩
def RX3 : String := "StageHouse$Play"
def TX3 : u_T := fun k => match k with
  | 0 => ("StageHouse$Play", "bytes", "LStageHouse$Tape;", true)
  | 1 => ("StageHouse$Play", "rooms", "LStageHouse$Index;", true)
  | 2 => ("StageHouse$Play", "scripts", "LStageHouse$Index;", true)
  | 3 => ("StageHouse$Play", "objects", "LStageHouse$Index;", true)
  | _ => ("StageHouse$Play", "actors", "LStageHouse$Index;", true)
def tyX3 : Nat → FieldType := fun k => match k with
  | 0 => .object "StageHouse$Tape"
  | 1 => .object "StageHouse$Index"
  | 2 => .object "StageHouse$Index"
  | 3 => .object "StageHouse$Index"
  | _ => .object "StageHouse$Index"
theorem nmX3 : ∀ a, a < 5 → ∀ b, b < 5 → a ≠ b → (TX3 a).2.1 ≠ (TX3 b).2.1 := by decide +kernel
theorem tyX3_ok : ∀ k, k < 5 → parseFieldDescriptor (TX3 k).2.2.1 = some (tyX3 k) := by decide +kernel
abbrev cX3_init : ByteArray := prog_5_method_1_code
def yX3_init : MethodName := ⟨RX3, "<init>", "()V"⟩
abbrev cX3_clear : ByteArray := prog_5_method_2_code
def yX3_clear : MethodName := ⟨RX3, "clear", "()V"⟩
abbrev cX3_copyFrom : ByteArray := prog_5_method_3_code
def yX3_copyFrom : MethodName := ⟨RX3, "copyFrom", "(LStageHouse$Play;)V"⟩
abbrev cX3_boxesOf : ByteArray := prog_5_method_4_code
def yX3_boxesOf : MethodName := ⟨RX3, "boxesOf", "(I)I"⟩
abbrev cX3_boxByte : ByteArray := prog_5_method_5_code
def yX3_boxByte : MethodName := ⟨RX3, "boxByte", "(III)I"⟩
abbrev cX3_actorByte : ByteArray := prog_5_method_6_code
def yX3_actorByte : MethodName := ⟨RX3, "actorByte", "(II)I"⟩
abbrev cX3_whereIs : ByteArray := prog_5_method_7_code
def yX3_whereIs : MethodName := ⟨RX3, "whereIs", "(II)I"⟩
abbrev cX3_verbsOf : ByteArray := prog_5_method_8_code
def yX3_verbsOf : MethodName := ⟨RX3, "verbsOf", "(I)I"⟩
abbrev cX3_scriptFor : ByteArray := prog_5_method_9_code
def yX3_scriptFor : MethodName := ⟨RX3, "scriptFor", "(II)I"⟩
def RX4 : String := "StageHouse$PlayReader"
def TX4 : u_T := fun k => match k with
  | 0 => ("StageHouse$PlayReader", "fault", "I", false)
  | 1 => ("StageHouse$PlayReader", "faultPlace", "I", false)
  | 2 => ("StageHouse$PlayReader", "play", "LStageHouse$Play;", true)
  | 3 => ("StageHouse$PlayReader", "verbsSeen", "[I", true)
  | 4 => ("StageHouse$PlayReader", "place", "I", false)
  | _ => ("StageHouse$PlayReader", "blockEnd", "I", false)
def tyX4 : Nat → FieldType := fun k => match k with
  | 0 => .int
  | 1 => .int
  | 2 => .object "StageHouse$Play"
  | 3 => .array .int
  | 4 => .int
  | _ => .int
theorem nmX4 : ∀ a, a < 6 → ∀ b, b < 6 → a ≠ b → (TX4 a).2.1 ≠ (TX4 b).2.1 := by decide +kernel
theorem tyX4_ok : ∀ k, k < 6 → parseFieldDescriptor (TX4 k).2.2.1 = some (tyX4 k) := by decide +kernel
abbrev cX4_init : ByteArray := prog_6_method_1_code
def yX4_init : MethodName := ⟨RX4, "<init>", "(LStageHouse$Play;)V"⟩
abbrev cX4_read : ByteArray := prog_6_method_2_code
def yX4_read : MethodName := ⟨RX4, "read", "()I"⟩
abbrev cX4_readMark : ByteArray := prog_6_method_3_code
def yX4_readMark : MethodName := ⟨RX4, "readMark", "()V"⟩
abbrev cX4_readBlock : ByteArray := prog_6_method_4_code
def yX4_readBlock : MethodName := ⟨RX4, "readBlock", "()V"⟩
abbrev cX4_readHead : ByteArray := prog_6_method_5_code
def yX4_readHead : MethodName := ⟨RX4, "readHead", "(I)Z"⟩
abbrev cX4_readRoom : ByteArray := prog_6_method_6_code
def yX4_readRoom : MethodName := ⟨RX4, "readRoom", "()V"⟩
abbrev cX4_readScript : ByteArray := prog_6_method_7_code
def yX4_readScript : MethodName := ⟨RX4, "readScript", "()V"⟩
abbrev cX4_readObject : ByteArray := prog_6_method_8_code
def yX4_readObject : MethodName := ⟨RX4, "readObject", "()V"⟩
abbrev cX4_readActor : ByteArray := prog_6_method_9_code
def yX4_readActor : MethodName := ⟨RX4, "readActor", "()V"⟩
abbrev cX4_takeNumber : ByteArray := prog_6_method_10_code
def yX4_takeNumber : MethodName := ⟨RX4, "takeNumber", "(LStageHouse$Index;)V"⟩
abbrev cX4_takeVerb : ByteArray := prog_6_method_11_code
def yX4_takeVerb : MethodName := ⟨RX4, "takeVerb", "()V"⟩
abbrev cX4_take : ByteArray := prog_6_method_12_code
def yX4_take : MethodName := ⟨RX4, "take", "(II)I"⟩
abbrev cX4_peek : ByteArray := prog_6_method_13_code
def yX4_peek : MethodName := ⟨RX4, "peek", "()I"⟩
abbrev cX4_fail : ByteArray := prog_6_method_14_code
def yX4_fail : MethodName := ⟨RX4, "fail", "(I)V"⟩
def RX5 : String := "StageHouse$Runner"
def TX5 : u_T := fun k => match k with
  | 0 => ("StageHouse$Runner", "play", "LStageHouse$Play;", true)
  | 1 => ("StageHouse$Runner", "ground", "LStageHouse$Ground;", true)
  | 2 => ("StageHouse$Runner", "stage", "LStageHouse$Stage;", true)
  | 3 => ("StageHouse$Runner", "walker", "LStageHouse$Walker;", true)
  | 4 => ("StageHouse$Runner", "values", "[I", true)
  | 5 => ("StageHouse$Runner", "target", "I", false)
  | 6 => ("StageHouse$Runner", "jump", "I", false)
  | 7 => ("StageHouse$Runner", "misread", "Z", false)
  | 8 => ("StageHouse$Runner", "codePlace", "I", false)
  | _ => ("StageHouse$Runner", "codeLength", "I", false)
def tyX5 : Nat → FieldType := fun k => match k with
  | 0 => .object "StageHouse$Play"
  | 1 => .object "StageHouse$Ground"
  | 2 => .object "StageHouse$Stage"
  | 3 => .object "StageHouse$Walker"
  | 4 => .array .int
  | 5 => .int
  | 6 => .int
  | 7 => .boolean
  | 8 => .int
  | _ => .int
theorem nmX5 : ∀ a, a < 10 → ∀ b, b < 10 → a ≠ b → (TX5 a).2.1 ≠ (TX5 b).2.1 := by decide +kernel
theorem tyX5_ok : ∀ k, k < 10 → parseFieldDescriptor (TX5 k).2.2.1 = some (tyX5 k) := by decide +kernel
abbrev cX5_init : ByteArray := prog_7_method_1_code
def yX5_init : MethodName := ⟨RX5, "<init>", "(LStageHouse$Play;LStageHouse$Ground;LStageHouse$Stage;LStageHouse$Walker;)V"⟩
abbrev cX5_beat : ByteArray := prog_7_method_2_code
def yX5_beat : MethodName := ⟨RX5, "beat", "()I"⟩
abbrev cX5_startScript : ByteArray := prog_7_method_3_code
def yX5_startScript : MethodName := ⟨RX5, "startScript", "(IZ)I"⟩
abbrev cX5_actOnSentence : ByteArray := prog_7_method_4_code
def yX5_actOnSentence : MethodName := ⟨RX5, "actOnSentence", "()V"⟩
abbrev cX5_turn : ByteArray := prog_7_method_5_code
def yX5_turn : MethodName := ⟨RX5, "turn", "(LStageHouse$Slot;)I"⟩
abbrev cX5_comesToOrders : ByteArray := prog_7_method_6_code
def yX5_comesToOrders : MethodName := ⟨RX5, "comesToOrders", "(LStageHouse$Slot;)Z"⟩
abbrev cX5_openCode : ByteArray := prog_7_method_7_code
def yX5_openCode : MethodName := ⟨RX5, "openCode", "(I)V"⟩
abbrev cX5_readOrder : ByteArray := prog_7_method_8_code
def yX5_readOrder : MethodName := ⟨RX5, "readOrder", "(LStageHouse$Slot;)I"⟩
abbrev cX5_nextByte : ByteArray := prog_7_method_9_code
def yX5_nextByte : MethodName := ⟨RX5, "nextByte", "(LStageHouse$Slot;)I"⟩
abbrev cX5_readTarget : ByteArray := prog_7_method_10_code
def yX5_readTarget : MethodName := ⟨RX5, "readTarget", "(LStageHouse$Slot;)I"⟩
abbrev cX5_readValue : ByteArray := prog_7_method_11_code
def yX5_readValue : MethodName := ⟨RX5, "readValue", "(LStageHouse$Slot;)I"⟩
abbrev cX5_readJump : ByteArray := prog_7_method_12_code
def yX5_readJump : MethodName := ⟨RX5, "readJump", "(LStageHouse$Slot;)I"⟩
abbrev cX5_addressOf : ByteArray := prog_7_method_13_code
def yX5_addressOf : MethodName := ⟨RX5, "addressOf", "(II)I"⟩
abbrev cX5_fetch : ByteArray := prog_7_method_14_code
def yX5_fetch : MethodName := ⟨RX5, "fetch", "(LStageHouse$Slot;I)I"⟩
abbrev cX5_store : ByteArray := prog_7_method_15_code
def yX5_store : MethodName := ⟨RX5, "store", "(LStageHouse$Slot;I)I"⟩
abbrev cX5_perform : ByteArray := prog_7_method_16_code
def yX5_perform : MethodName := ⟨RX5, "perform", "(LStageHouse$Slot;I)I"⟩
abbrev cX5_goIf : ByteArray := prog_7_method_17_code
def yX5_goIf : MethodName := ⟨RX5, "goIf", "(LStageHouse$Slot;Z)I"⟩
abbrev cX5_stopScript : ByteArray := prog_7_method_18_code
def yX5_stopScript : MethodName := ⟨RX5, "stopScript", "(LStageHouse$Slot;I)I"⟩
abbrev cX5_chain : ByteArray := prog_7_method_19_code
def yX5_chain : MethodName := ⟨RX5, "chain", "(LStageHouse$Slot;I)I"⟩
abbrev cX5_await : ByteArray := prog_7_method_20_code
def yX5_await : MethodName := ⟨RX5, "await", "(LStageHouse$Slot;I)I"⟩
abbrev cX5_freezeOthers : ByteArray := prog_7_method_21_code
def yX5_freezeOthers : MethodName := ⟨RX5, "freezeOthers", "(LStageHouse$Slot;Z)I"⟩
abbrev cX5_changeStage : ByteArray := prog_7_method_22_code
def yX5_changeStage : MethodName := ⟨RX5, "changeStage", "(I)I"⟩
abbrev cX5_putActor : ByteArray := prog_7_method_23_code
def yX5_putActor : MethodName := ⟨RX5, "putActor", "(IIII)I"⟩
abbrev cX5_setSpeed : ByteArray := prog_7_method_24_code
def yX5_setSpeed : MethodName := ⟨RX5, "setSpeed", "(II)I"⟩
abbrev cX5_setState : ByteArray := prog_7_method_25_code
def yX5_setState : MethodName := ⟨RX5, "setState", "(II)I"⟩
abbrev cX5_setOwner : ByteArray := prog_7_method_26_code
def yX5_setOwner : MethodName := ⟨RX5, "setOwner", "(II)I"⟩
abbrev cX5_shutBox : ByteArray := prog_7_method_27_code
def yX5_shutBox : MethodName := ⟨RX5, "shutBox", "(IIZ)I"⟩
abbrev cX5_assign : ByteArray := prog_7_method_28_code
def yX5_assign : MethodName := ⟨RX5, "assign", "(LStageHouse$Slot;I)I"⟩
abbrev cX5_askActor : ByteArray := prog_7_method_29_code
def yX5_askActor : MethodName := ⟨RX5, "askActor", "(LStageHouse$Slot;I)I"⟩
abbrev cX5_askDistance : ByteArray := prog_7_method_30_code
def yX5_askDistance : MethodName := ⟨RX5, "askDistance", "(LStageHouse$Slot;)I"⟩
def RX6 : String := "StageHouse$Slot"
def TX6 : u_T := fun k => match k with
  | 0 => ("StageHouse$Slot", "script", "I", false)
  | 1 => ("StageHouse$Slot", "place", "I", false)
  | 2 => ("StageHouse$Slot", "delay", "I", false)
  | 3 => ("StageHouse$Slot", "awaited", "I", false)
  | 4 => ("StageHouse$Slot", "frozen", "Z", false)
  | 5 => ("StageHouse$Slot", "bySentence", "Z", false)
  | _ => ("StageHouse$Slot", "locals", "[I", true)
def tyX6 : Nat → FieldType := fun k => match k with
  | 0 => .int
  | 1 => .int
  | 2 => .int
  | 3 => .int
  | 4 => .boolean
  | 5 => .boolean
  | _ => .array .int
theorem nmX6 : ∀ a, a < 7 → ∀ b, b < 7 → a ≠ b → (TX6 a).2.1 ≠ (TX6 b).2.1 := by decide +kernel
theorem tyX6_ok : ∀ k, k < 7 → parseFieldDescriptor (TX6 k).2.2.1 = some (tyX6 k) := by decide +kernel
abbrev cX6_init : ByteArray := prog_8_method_1_code
def yX6_init : MethodName := ⟨RX6, "<init>", "()V"⟩
abbrev cX6_runs : ByteArray := prog_8_method_2_code
def yX6_runs : MethodName := ⟨RX6, "runs", "()Z"⟩
abbrev cX6_begin : ByteArray := prog_8_method_3_code
def yX6_begin : MethodName := ⟨RX6, "begin", "(IZ)V"⟩
abbrev cX6_release : ByteArray := prog_8_method_4_code
def yX6_release : MethodName := ⟨RX6, "release", "()V"⟩
abbrev cX6_copyFrom : ByteArray := prog_8_method_5_code
def yX6_copyFrom : MethodName := ⟨RX6, "copyFrom", "(LStageHouse$Slot;)V"⟩
abbrev cX6_number : ByteArray := prog_8_method_6_code
def yX6_number : MethodName := ⟨RX6, "number", "(I)I"⟩
def RX7 : String := "StageHouse$Stage"
def TX7 : u_T := fun k => match k with
  | 0 => ("StageHouse$Stage", "ticks", "I", false)
  | 1 => ("StageHouse$Stage", "luck", "I", false)
  | 2 => ("StageHouse$Stage", "noted", "I", false)
  | 3 => ("StageHouse$Stage", "crashes", "I", false)
  | 4 => ("StageHouse$Stage", "spilled", "I", false)
  | 5 => ("StageHouse$Stage", "waiting", "I", false)
  | 6 => ("StageHouse$Stage", "variables", "[I", true)
  | 7 => ("StageHouse$Stage", "notes", "[I", true)
  | 8 => ("StageHouse$Stage", "sentences", "[I", true)
  | 9 => ("StageHouse$Stage", "states", "[I", true)
  | 10 => ("StageHouse$Stage", "owners", "[I", true)
  | 11 => ("StageHouse$Stage", "shut", "[I", true)
  | 12 => ("StageHouse$Stage", "slots", "[LStageHouse$Slot;", true)
  | _ => ("StageHouse$Stage", "actors", "[LStageHouse$Actor;", true)
def tyX7 : Nat → FieldType := fun k => match k with
  | 0 => .int
  | 1 => .int
  | 2 => .int
  | 3 => .int
  | 4 => .int
  | 5 => .int
  | 6 => .array .int
  | 7 => .array .int
  | 8 => .array .int
  | 9 => .array .int
  | 10 => .array .int
  | 11 => .array .int
  | 12 => .array (.object "StageHouse$Slot")
  | _ => .array (.object "StageHouse$Actor")
theorem nmX7 : ∀ a, a < 14 → ∀ b, b < 14 → a ≠ b → (TX7 a).2.1 ≠ (TX7 b).2.1 := by decide +kernel
theorem tyX7_ok : ∀ k, k < 14 → parseFieldDescriptor (TX7 k).2.2.1 = some (tyX7 k) := by decide +kernel
abbrev cX7_init : ByteArray := prog_9_method_1_code
def yX7_init : MethodName := ⟨RX7, "<init>", "()V"⟩
abbrev cX7_open : ByteArray := prog_9_method_2_code
def yX7_open : MethodName := ⟨RX7, "open", "(LStageHouse$Play;)V"⟩
abbrev cX7_shutBoxes : ByteArray := prog_9_method_3_code
def yX7_shutBoxes : MethodName := ⟨RX7, "shutBoxes", "(LStageHouse$Play;I)V"⟩
abbrev cX7_shutBox : ByteArray := prog_9_method_4_code
def yX7_shutBox : MethodName := ⟨RX7, "shutBox", "(IIZ)V"⟩
abbrev cX7_copyFrom : ByteArray := prog_9_method_5_code
def yX7_copyFrom : MethodName := ⟨RX7, "copyFrom", "(LStageHouse$Stage;)V"⟩
abbrev cX7_runningSlots : ByteArray := prog_9_method_6_code
def yX7_runningSlots : MethodName := ⟨RX7, "runningSlots", "()I"⟩
abbrev cX7_slotsWith : ByteArray := prog_9_method_7_code
def yX7_slotsWith : MethodName := ⟨RX7, "slotsWith", "(I)I"⟩
abbrev cX7_lowestFreeSlot : ByteArray := prog_9_method_8_code
def yX7_lowestFreeSlot : MethodName := ⟨RX7, "lowestFreeSlot", "()I"⟩
abbrev cX7_runsSentence : ByteArray := prog_9_method_9_code
def yX7_runsSentence : MethodName := ⟨RX7, "runsSentence", "()Z"⟩
abbrev cX7_addNote : ByteArray := prog_9_method_10_code
def yX7_addNote : MethodName := ⟨RX7, "addNote", "(I)V"⟩
abbrev cX7_addSentence : ByteArray := prog_9_method_11_code
def yX7_addSentence : MethodName := ⟨RX7, "addSentence", "(III)Z"⟩
abbrev cX7_takeSentence : ByteArray := prog_9_method_12_code
def yX7_takeSentence : MethodName := ⟨RX7, "takeSentence", "()V"⟩
abbrev cX7_drawLuck : ByteArray := prog_9_method_13_code
def yX7_drawLuck : MethodName := ⟨RX7, "drawLuck", "(I)I"⟩
def RX8 : String := "StageHouse$Tape"
def TX8 : u_T := fun k => match k with
  | 0 => ("StageHouse$Tape", "words", "[I", true)
  | _ => ("StageHouse$Tape", "size", "I", false)
def tyX8 : Nat → FieldType := fun k => match k with
  | 0 => .array .int
  | _ => .int
theorem nmX8 : ∀ a, a < 2 → ∀ b, b < 2 → a ≠ b → (TX8 a).2.1 ≠ (TX8 b).2.1 := by decide +kernel
theorem tyX8_ok : ∀ k, k < 2 → parseFieldDescriptor (TX8 k).2.2.1 = some (tyX8 k) := by decide +kernel
abbrev cX8_init : ByteArray := prog_10_method_1_code
def yX8_init : MethodName := ⟨RX8, "<init>", "()V"⟩
abbrev cX8_at : ByteArray := prog_10_method_2_code
def yX8_at : MethodName := ⟨RX8, "at", "(I)I"⟩
abbrev cX8_addNumber : ByteArray := prog_10_method_3_code
def yX8_addNumber : MethodName := ⟨RX8, "addNumber", "(I)V"⟩
abbrev cX8_cut : ByteArray := prog_10_method_4_code
def yX8_cut : MethodName := ⟨RX8, "cut", "(I)Z"⟩
abbrev cX8_copyFrom : ByteArray := prog_10_method_5_code
def yX8_copyFrom : MethodName := ⟨RX8, "copyFrom", "(LStageHouse$Tape;)V"⟩
abbrev cX8_add : ByteArray := prog_10_method_6_code
def yX8_add : MethodName := ⟨RX8, "add", "(I)V"⟩
def RX9 : String := "StageHouse$Walker"
def TX9 : u_T := fun k => match k with
  | 0 => ("StageHouse$Walker", "play", "LStageHouse$Play;", true)
  | 1 => ("StageHouse$Walker", "ground", "LStageHouse$Ground;", true)
  | 2 => ("StageHouse$Walker", "stage", "LStageHouse$Stage;", true)
  | 3 => ("StageHouse$Walker", "far", "[I", true)
  | 4 => ("StageHouse$Walker", "goalX", "I", false)
  | 5 => ("StageHouse$Walker", "goalY", "I", false)
  | _ => ("StageHouse$Walker", "goalBox", "I", false)
def tyX9 : Nat → FieldType := fun k => match k with
  | 0 => .object "StageHouse$Play"
  | 1 => .object "StageHouse$Ground"
  | 2 => .object "StageHouse$Stage"
  | 3 => .array .int
  | 4 => .int
  | 5 => .int
  | _ => .int
theorem nmX9 : ∀ a, a < 7 → ∀ b, b < 7 → a ≠ b → (TX9 a).2.1 ≠ (TX9 b).2.1 := by decide +kernel
theorem tyX9_ok : ∀ k, k < 7 → parseFieldDescriptor (TX9 k).2.2.1 = some (tyX9 k) := by decide +kernel
abbrev cX9_init : ByteArray := prog_11_method_1_code
def yX9_init : MethodName := ⟨RX9, "<init>", "(LStageHouse$Play;LStageHouse$Ground;LStageHouse$Stage;)V"⟩
abbrev cX9_send : ByteArray := prog_11_method_2_code
def yX9_send : MethodName := ⟨RX9, "send", "(III)Z"⟩
abbrev cX9_isOpen : ByteArray := prog_11_method_3_code
def yX9_isOpen : MethodName := ⟨RX9, "isOpen", "(II)Z"⟩
abbrev cX9_boxOf : ByteArray := prog_11_method_4_code
def yX9_boxOf : MethodName := ⟨RX9, "boxOf", "(LStageHouse$Actor;)I"⟩
abbrev cX9_boxesBetween : ByteArray := prog_11_method_5_code
def yX9_boxesBetween : MethodName := ⟨RX9, "boxesBetween", "(III)I"⟩
abbrev cX9_goalFor : ByteArray := prog_11_method_6_code
def yX9_goalFor : MethodName := ⟨RX9, "goalFor", "(LStageHouse$Actor;II)I"⟩
abbrev cX9_moveAll : ByteArray := prog_11_method_7_code
def yX9_moveAll : MethodName := ⟨RX9, "moveAll", "()V"⟩
abbrev cX9_measureFrom : ByteArray := prog_11_method_8_code
def yX9_measureFrom : MethodName := ⟨RX9, "measureFrom", "(II)V"⟩
abbrev cX9_findGoal : ByteArray := prog_11_method_9_code
def yX9_findGoal : MethodName := ⟨RX9, "findGoal", "(IIII)V"⟩
abbrev cX9_step : ByteArray := prog_11_method_10_code
def yX9_step : MethodName := ⟨RX9, "step", "(LStageHouse$Actor;)V"⟩
abbrev cX9_nextBox : ByteArray := prog_11_method_11_code
def yX9_nextBox : MethodName := ⟨RX9, "nextBox", "(II)I"⟩
abbrev cX9_stepTo : ByteArray := prog_11_method_12_code
def yX9_stepTo : MethodName := ⟨RX9, "stepTo", "(LStageHouse$Actor;IIII)V"⟩
def RX10 : String := "StageHouse"
def TX10 : u_T := fun k => match k with
  | 0 => ("StageHouse", "draft", "LStageHouse$Play;", true)
  | 1 => ("StageHouse", "given", "LStageHouse$Play;", true)
  | 2 => ("StageHouse", "reader", "LStageHouse$PlayReader;", true)
  | 3 => ("StageHouse", "stage", "LStageHouse$Stage;", true)
  | 4 => ("StageHouse", "kept", "LStageHouse$Stage;", true)
  | 5 => ("StageHouse", "ground", "LStageHouse$Ground;", true)
  | 6 => ("StageHouse", "walker", "LStageHouse$Walker;", true)
  | 7 => ("StageHouse", "runner", "LStageHouse$Runner;", true)
  | _ => ("StageHouse", "hasKept", "Z", false)
def tyX10 : Nat → FieldType := fun k => match k with
  | 0 => .object "StageHouse$Play"
  | 1 => .object "StageHouse$Play"
  | 2 => .object "StageHouse$PlayReader"
  | 3 => .object "StageHouse$Stage"
  | 4 => .object "StageHouse$Stage"
  | 5 => .object "StageHouse$Ground"
  | 6 => .object "StageHouse$Walker"
  | 7 => .object "StageHouse$Runner"
  | _ => .boolean
theorem nmX10 : ∀ a, a < 9 → ∀ b, b < 9 → a ≠ b → (TX10 a).2.1 ≠ (TX10 b).2.1 := by decide +kernel
theorem tyX10_ok : ∀ k, k < 9 → parseFieldDescriptor (TX10 k).2.2.1 = some (tyX10 k) := by decide +kernel
abbrev cX10_init : ByteArray := prog_1_method_1_code
def yX10_init : MethodName := ⟨RX10, "<init>", "()V"⟩
abbrev cX10_feed : ByteArray := prog_1_method_2_code
def yX10_feed : MethodName := ⟨RX10, "feed", "(IIIII)I"⟩
abbrev cX10_end : ByteArray := prog_1_method_3_code
def yX10_end : MethodName := ⟨RX10, "end", "(I)Z"⟩
abbrev cX10_play : ByteArray := prog_1_method_4_code
def yX10_play : MethodName := ⟨RX10, "play", "()I"⟩
abbrev cX10_fault : ByteArray := prog_1_method_5_code
def yX10_fault : MethodName := ⟨RX10, "fault", "(I)I"⟩
abbrev cX10_tick : ByteArray := prog_1_method_6_code
def yX10_tick : MethodName := ⟨RX10, "tick", "(I)I"⟩
abbrev cX10_start : ByteArray := prog_1_method_7_code
def yX10_start : MethodName := ⟨RX10, "start", "(I)I"⟩
abbrev cX10_say : ByteArray := prog_1_method_8_code
def yX10_say : MethodName := ⟨RX10, "say", "(III)I"⟩
abbrev cX10_walk : ByteArray := prog_1_method_9_code
def yX10_walk : MethodName := ⟨RX10, "walk", "(III)Z"⟩
abbrev cX10_set : ByteArray := prog_1_method_10_code
def yX10_set : MethodName := ⟨RX10, "set", "(II)I"⟩
abbrev cX10_variable : ByteArray := prog_1_method_11_code
def yX10_variable : MethodName := ⟨RX10, "variable", "(I)I"⟩
abbrev cX10_slot : ByteArray := prog_1_method_12_code
def yX10_slot : MethodName := ⟨RX10, "slot", "(II)I"⟩
abbrev cX10_actor : ByteArray := prog_1_method_13_code
def yX10_actor : MethodName := ⟨RX10, "actor", "(II)I"⟩
abbrev cX10_object : ByteArray := prog_1_method_14_code
def yX10_object : MethodName := ⟨RX10, "object", "(II)I"⟩
abbrev cX10_verb : ByteArray := prog_1_method_15_code
def yX10_verb : MethodName := ⟨RX10, "verb", "(II)I"⟩
abbrev cX10_box : ByteArray := prog_1_method_16_code
def yX10_box : MethodName := ⟨RX10, "box", "(III)I"⟩
abbrev cX10_neighbours : ByteArray := prog_1_method_17_code
def yX10_neighbours : MethodName := ⟨RX10, "neighbours", "(III)I"⟩
abbrev cX10_way : ByteArray := prog_1_method_18_code
def yX10_way : MethodName := ⟨RX10, "way", "(III)I"⟩
abbrev cX10_goal : ByteArray := prog_1_method_19_code
def yX10_goal : MethodName := ⟨RX10, "goal", "(III)I"⟩
abbrev cX10_note : ByteArray := prog_1_method_20_code
def yX10_note : MethodName := ⟨RX10, "note", "(I)I"⟩
abbrev cX10_sentence : ByteArray := prog_1_method_21_code
def yX10_sentence : MethodName := ⟨RX10, "sentence", "(II)I"⟩
abbrev cX10_count : ByteArray := prog_1_method_22_code
def yX10_count : MethodName := ⟨RX10, "count", "(I)I"⟩
abbrev cX10_keep : ByteArray := prog_1_method_23_code
def yX10_keep : MethodName := ⟨RX10, "keep", "()Z"⟩
abbrev cX10_back : ByteArray := prog_1_method_24_code
def yX10_back : MethodName := ⟨RX10, "back", "()Z"⟩
abbrev cX10_isByte : ByteArray := prog_1_method_25_code
def yX10_isByte : MethodName := ⟨RX10, "isByte", "(I)Z"⟩
def RX11 : String := "StageHouseModel"
def TX11 : u_T := fun k => match k with
  | 0 => ("StageHouseModel", "thrown", "I", false)
  | 1 => ("StageHouseModel", "tape", "[I", true)
  | 2 => ("StageHouseModel", "taped", "I", false)
  | 3 => ("StageHouseModel", "play", "[I", true)
  | 4 => ("StageHouseModel", "size", "I", false)
  | 5 => ("StageHouseModel", "rooms", "I", false)
  | 6 => ("StageHouseModel", "scripts", "I", false)
  | 7 => ("StageHouseModel", "objects", "I", false)
  | 8 => ("StageHouseModel", "actors", "I", false)
  | 9 => ("StageHouseModel", "hasRoom", "[Z", true)
  | 10 => ("StageHouseModel", "boxes", "[I", true)
  | 11 => ("StageHouseModel", "box", "[I", true)
  | 12 => ("StageHouseModel", "codeAt", "[I", true)
  | 13 => ("StageHouseModel", "codeLong", "[I", true)
  | 14 => ("StageHouseModel", "hasObject", "[Z", true)
  | 15 => ("StageHouseModel", "ofObject", "[I", true)
  | 16 => ("StageHouseModel", "verbsAt", "[I", true)
  | 17 => ("StageHouseModel", "verbs", "[I", true)
  | 18 => ("StageHouseModel", "hasActor", "[Z", true)
  | 19 => ("StageHouseModel", "why", "I", false)
  | 20 => ("StageHouseModel", "where", "I", false)
  | 21 => ("StageHouseModel", "met", "[Z", true)
  | 22 => ("StageHouseModel", "at", "I", false)
  | 23 => ("StageHouseModel", "until", "I", false)
  | 24 => ("StageHouseModel", "told", "[Z", true)
  | 25 => ("StageHouseModel", "faultKind", "I", false)
  | 26 => ("StageHouseModel", "faultPlace", "I", false)
  | 27 => ("StageHouseModel", "run", "[I", true)
  | 28 => ("StageHouseModel", "kept", "[I", true)
  | 29 => ("StageHouseModel", "hasKept", "Z", false)
  | 30 => ("StageHouseModel", "far", "[I", true)
  | 31 => ("StageHouseModel", "goalBox", "I", false)
  | 32 => ("StageHouseModel", "goalX", "I", false)
  | 33 => ("StageHouseModel", "goalY", "I", false)
  | 34 => ("StageHouseModel", "now", "I", false)
  | 35 => ("StageHouseModel", "crashed", "Z", false)
  | 36 => ("StageHouseModel", "place", "I", false)
  | 37 => ("StageHouseModel", "v", "[I", true)
  | 38 => ("StageHouseModel", "goal", "I", false)
  | _ => ("StageHouseModel", "leap", "I", false)
def tyX11 : Nat → FieldType := fun k => match k with
  | 0 => .int
  | 1 => .array .int
  | 2 => .int
  | 3 => .array .int
  | 4 => .int
  | 5 => .int
  | 6 => .int
  | 7 => .int
  | 8 => .int
  | 9 => .array .boolean
  | 10 => .array .int
  | 11 => .array .int
  | 12 => .array .int
  | 13 => .array .int
  | 14 => .array .boolean
  | 15 => .array .int
  | 16 => .array .int
  | 17 => .array .int
  | 18 => .array .boolean
  | 19 => .int
  | 20 => .int
  | 21 => .array .boolean
  | 22 => .int
  | 23 => .int
  | 24 => .array .boolean
  | 25 => .int
  | 26 => .int
  | 27 => .array .int
  | 28 => .array .int
  | 29 => .boolean
  | 30 => .array .int
  | 31 => .int
  | 32 => .int
  | 33 => .int
  | 34 => .int
  | 35 => .boolean
  | 36 => .int
  | 37 => .array .int
  | 38 => .int
  | _ => .int
theorem nmX11 : ∀ a, a < 40 → ∀ b, b < 40 → a ≠ b → (TX11 a).2.1 ≠ (TX11 b).2.1 := by decide +kernel
theorem tyX11_ok : ∀ k, k < 40 → parseFieldDescriptor (TX11 k).2.2.1 = some (tyX11 k) := by decide +kernel
abbrev cX11_thrown : ByteArray := prog_13_method_1_code
def yX11_thrown : MethodName := ⟨RX11, "thrown", "()I"⟩
abbrev cX11_in : ByteArray := prog_13_method_2_code
def yX11_in : MethodName := ⟨RX11, "in", "(JJJ)Z"⟩
abbrev cX11_refuse : ByteArray := prog_13_method_3_code
def yX11_refuse : MethodName := ⟨RX11, "refuse", "()I"⟩
abbrev cX11_init : ByteArray := prog_13_method_4_code
def yX11_init : MethodName := ⟨RX11, "<init>", "()V"⟩
abbrev cX11_feed : ByteArray := prog_13_method_5_code
def yX11_feed : MethodName := ⟨RX11, "feed", "(IIIII)I"⟩
abbrev cX11_end : ByteArray := prog_13_method_6_code
def yX11_end : MethodName := ⟨RX11, "end", "(I)Z"⟩
abbrev cX11_flaw : ByteArray := prog_13_method_7_code
def yX11_flaw : MethodName := ⟨RX11, "flaw", "(II)V"⟩
abbrev cX11_wants : ByteArray := prog_13_method_8_code
def yX11_wants : MethodName := ⟨RX11, "wants", "(II)I"⟩
abbrev cX11_names : ByteArray := prog_13_method_9_code
def yX11_names : MethodName := ⟨RX11, "names", "(II)V"⟩
abbrev cX11_judgeRoom : ByteArray := prog_13_method_10_code
def yX11_judgeRoom : MethodName := ⟨RX11, "judgeRoom", "()V"⟩
abbrev cX11_judgeObject : ByteArray := prog_13_method_11_code
def yX11_judgeObject : MethodName := ⟨RX11, "judgeObject", "()V"⟩
abbrev cX11_judge : ByteArray := prog_13_method_12_code
def yX11_judge : MethodName := ⟨RX11, "judge", "(I)I"⟩
abbrev cX11_judgeBlock : ByteArray := prog_13_method_13_code
def yX11_judgeBlock : MethodName := ⟨RX11, "judgeBlock", "(I)V"⟩
abbrev cX11_forget : ByteArray := prog_13_method_14_code
def yX11_forget : MethodName := ⟨RX11, "forget", "()V"⟩
abbrev cX11_load : ByteArray := prog_13_method_15_code
def yX11_load : MethodName := ⟨RX11, "load", "(I)V"⟩
abbrev cX11_play : ByteArray := prog_13_method_16_code
def yX11_play : MethodName := ⟨RX11, "play", "()I"⟩
abbrev cX11_fault : ByteArray := prog_13_method_17_code
def yX11_fault : MethodName := ⟨RX11, "fault", "(I)I"⟩
abbrev cX11_of : ByteArray := prog_13_method_18_code
def yX11_of : MethodName := ⟨RX11, "of", "(II)I"⟩
abbrev cX11_to : ByteArray := prog_13_method_19_code
def yX11_to : MethodName := ⟨RX11, "to", "(III)V"⟩
abbrev cX11_frees : ByteArray := prog_13_method_20_code
def yX11_frees : MethodName := ⟨RX11, "frees", "(I)V"⟩
abbrev cX11_isScript : ByteArray := prog_13_method_21_code
def yX11_isScript : MethodName := ⟨RX11, "isScript", "(I)Z"⟩
abbrev cX11_started : ByteArray := prog_13_method_22_code
def yX11_started : MethodName := ⟨RX11, "started", "(I)I"⟩
abbrev cX11_says : ByteArray := prog_13_method_23_code
def yX11_says : MethodName := ⟨RX11, "says", "(III)I"⟩
abbrev cX11_isActor : ByteArray := prog_13_method_24_code
def yX11_isActor : MethodName := ⟨RX11, "isActor", "(I)Z"⟩
abbrev cX11_isObject : ByteArray := prog_13_method_25_code
def yX11_isObject : MethodName := ⟨RX11, "isObject", "(I)Z"⟩
abbrev cX11_actorOf : ByteArray := prog_13_method_26_code
def yX11_actorOf : MethodName := ⟨RX11, "actorOf", "(II)I"⟩
abbrev cX11_actorTo : ByteArray := prog_13_method_27_code
def yX11_actorTo : MethodName := ⟨RX11, "actorTo", "(III)V"⟩
abbrev cX11_scriptOf : ByteArray := prog_13_method_28_code
def yX11_scriptOf : MethodName := ⟨RX11, "scriptOf", "(II)I"⟩
abbrev cX11_isBox : ByteArray := prog_13_method_29_code
def yX11_isBox : MethodName := ⟨RX11, "isBox", "(II)Z"⟩
abbrev cX11_side : ByteArray := prog_13_method_30_code
def yX11_side : MethodName := ⟨RX11, "side", "(III)I"⟩
abbrev cX11_isOpen : ByteArray := prog_13_method_31_code
def yX11_isOpen : MethodName := ⟨RX11, "isOpen", "(II)Z"⟩
abbrev cX11_has : ByteArray := prog_13_method_32_code
def yX11_has : MethodName := ⟨RX11, "has", "(IIII)Z"⟩
abbrev cX11_gap : ByteArray := prog_13_method_33_code
def yX11_gap : MethodName := ⟨RX11, "gap", "(IIII)I"⟩
abbrev cX11_near : ByteArray := prog_13_method_34_code
def yX11_near : MethodName := ⟨RX11, "near", "(III)Z"⟩
abbrev cX11_boxAt : ByteArray := prog_13_method_35_code
def yX11_boxAt : MethodName := ⟨RX11, "boxAt", "(III)I"⟩
abbrev cX11_boxOf : ByteArray := prog_13_method_36_code
def yX11_boxOf : MethodName := ⟨RX11, "boxOf", "(I)I"⟩
abbrev cX11_ways : ByteArray := prog_13_method_37_code
def yX11_ways : MethodName := ⟨RX11, "ways", "(II)V"⟩
abbrev cX11_within : ByteArray := prog_13_method_38_code
def yX11_within : MethodName := ⟨RX11, "within", "(III)I"⟩
abbrev cX11_goals : ByteArray := prog_13_method_39_code
def yX11_goals : MethodName := ⟨RX11, "goals", "(IIII)V"⟩
abbrev cX11_step : ByteArray := prog_13_method_40_code
def yX11_step : MethodName := ⟨RX11, "step", "(I)V"⟩
abbrev cX11_byteOf : ByteArray := prog_13_method_41_code
def yX11_byteOf : MethodName := ⟨RX11, "byteOf", "()I"⟩
abbrev cX11_count2 : ByteArray := prog_13_method_42_code
def yX11_count2 : MethodName := ⟨RX11, "count2", "()I"⟩
abbrev cX11_named : ByteArray := prog_13_method_43_code
def yX11_named : MethodName := ⟨RX11, "named", "(I)I"⟩
abbrev cX11_value : ByteArray := prog_13_method_44_code
def yX11_value : MethodName := ⟨RX11, "value", "()I"⟩
abbrev cX11_target : ByteArray := prog_13_method_45_code
def yX11_target : MethodName := ⟨RX11, "target", "()I"⟩
abbrev cX11_jump : ByteArray := prog_13_method_46_code
def yX11_jump : MethodName := ⟨RX11, "jump", "()I"⟩
abbrev cX11_reads : ByteArray := prog_13_method_47_code
def yX11_reads : MethodName := ⟨RX11, "reads", "(ZIZ)V"⟩
abbrev cX11_readOrder : ByteArray := prog_13_method_48_code
def yX11_readOrder : MethodName := ⟨RX11, "readOrder", "(I)V"⟩
abbrev cX11_isByte : ByteArray := prog_13_method_49_code
def yX11_isByte : MethodName := ⟨RX11, "isByte", "(I)Z"⟩
abbrev cX11_may : ByteArray := prog_13_method_50_code
def yX11_may : MethodName := ⟨RX11, "may", "(I)Z"⟩
abbrev cX11_does : ByteArray := prog_13_method_51_code
def yX11_does : MethodName := ⟨RX11, "does", "(I)Z"⟩
abbrev cX11_stops : ByteArray := prog_13_method_52_code
def yX11_stops : MethodName := ⟨RX11, "stops", "()Z"⟩
abbrev cX11_changes : ByteArray := prog_13_method_53_code
def yX11_changes : MethodName := ⟨RX11, "changes", "()Z"⟩
abbrev cX11_walks : ByteArray := prog_13_method_54_code
def yX11_walks : MethodName := ⟨RX11, "walks", "(III)V"⟩
abbrev cX11_acts : ByteArray := prog_13_method_55_code
def yX11_acts : MethodName := ⟨RX11, "acts", "(I)V"⟩
abbrev cX11_answer : ByteArray := prog_13_method_56_code
def yX11_answer : MethodName := ⟨RX11, "answer", "(I)I"⟩
abbrev cX11_running : ByteArray := prog_13_method_57_code
def yX11_running : MethodName := ⟨RX11, "running", "(I)I"⟩
abbrev cX11_turn : ByteArray := prog_13_method_58_code
def yX11_turn : MethodName := ⟨RX11, "turn", "(I)I"⟩
abbrev cX11_isAtSentence : ByteArray := prog_13_method_59_code
def yX11_isAtSentence : MethodName := ⟨RX11, "isAtSentence", "()Z"⟩
abbrev cX11_takesSentence : ByteArray := prog_13_method_60_code
def yX11_takesSentence : MethodName := ⟨RX11, "takesSentence", "()V"⟩
abbrev cX11_one : ByteArray := prog_13_method_61_code
def yX11_one : MethodName := ⟨RX11, "one", "()I"⟩
abbrev cX11_tick : ByteArray := prog_13_method_62_code
def yX11_tick : MethodName := ⟨RX11, "tick", "(I)I"⟩
abbrev cX11_start : ByteArray := prog_13_method_63_code
def yX11_start : MethodName := ⟨RX11, "start", "(I)I"⟩
abbrev cX11_say : ByteArray := prog_13_method_64_code
def yX11_say : MethodName := ⟨RX11, "say", "(III)I"⟩
abbrev cX11_walk : ByteArray := prog_13_method_65_code
def yX11_walk : MethodName := ⟨RX11, "walk", "(III)Z"⟩
abbrev cX11_set : ByteArray := prog_13_method_66_code
def yX11_set : MethodName := ⟨RX11, "set", "(II)I"⟩
abbrev cX11_variable : ByteArray := prog_13_method_67_code
def yX11_variable : MethodName := ⟨RX11, "variable", "(I)I"⟩
abbrev cX11_slot : ByteArray := prog_13_method_68_code
def yX11_slot : MethodName := ⟨RX11, "slot", "(II)I"⟩
abbrev cX11_actor : ByteArray := prog_13_method_69_code
def yX11_actor : MethodName := ⟨RX11, "actor", "(II)I"⟩
abbrev cX11_object : ByteArray := prog_13_method_70_code
def yX11_object : MethodName := ⟨RX11, "object", "(II)I"⟩
abbrev cX11_verb : ByteArray := prog_13_method_71_code
def yX11_verb : MethodName := ⟨RX11, "verb", "(II)I"⟩
abbrev cX11_box : ByteArray := prog_13_method_72_code
def yX11_box : MethodName := ⟨RX11, "box", "(III)I"⟩
abbrev cX11_neighbours : ByteArray := prog_13_method_73_code
def yX11_neighbours : MethodName := ⟨RX11, "neighbours", "(III)I"⟩
abbrev cX11_way : ByteArray := prog_13_method_74_code
def yX11_way : MethodName := ⟨RX11, "way", "(III)I"⟩
abbrev cX11_goal : ByteArray := prog_13_method_75_code
def yX11_goal : MethodName := ⟨RX11, "goal", "(III)I"⟩
abbrev cX11_note : ByteArray := prog_13_method_76_code
def yX11_note : MethodName := ⟨RX11, "note", "(I)I"⟩
abbrev cX11_sentence : ByteArray := prog_13_method_77_code
def yX11_sentence : MethodName := ⟨RX11, "sentence", "(II)I"⟩
abbrev cX11_count : ByteArray := prog_13_method_78_code
def yX11_count : MethodName := ⟨RX11, "count", "(I)I"⟩
abbrev cX11_keep : ByteArray := prog_13_method_79_code
def yX11_keep : MethodName := ⟨RX11, "keep", "()Z"⟩
abbrev cX11_back : ByteArray := prog_13_method_80_code
def yX11_back : MethodName := ⟨RX11, "back", "()Z"⟩
def RJ6 : String := "java/lang/Integer"
def TJ6 : u_T := fun k => match k with
  | _ => ("", "", "", false)
def tyJ6 : Nat → FieldType := fun k => match k with
  | _ => .int
theorem nmJ6 : ∀ a, a < 0 → ∀ b, b < 0 → a ≠ b → (TJ6 a).2.1 ≠ (TJ6 b).2.1 := by decide +kernel
theorem tyJ6_ok : ∀ k, k < 0 → parseFieldDescriptor (TJ6 k).2.2.1 = some (tyJ6 k) := by decide +kernel
abbrev cJ6_compare_7cf53 : ByteArray := prog_16_method_40_code
def yJ6_compare_7cf53 : MethodName := ⟨RJ6, "compare", "(II)I"⟩
abbrev cJ6_signum_0f7a4 : ByteArray := prog_16_method_56_code
def yJ6_signum_0f7a4 : MethodName := ⟨RJ6, "signum", "(I)I"⟩
def RJ9 : String := "java/lang/Math"
def TJ9 : u_T := fun k => match k with
  | _ => ("", "", "", false)
def tyJ9 : Nat → FieldType := fun k => match k with
  | _ => .int
theorem nmJ9 : ∀ a, a < 0 → ∀ b, b < 0 → a ≠ b → (TJ9 a).2.1 ≠ (TJ9 b).2.1 := by decide +kernel
theorem tyJ9_ok : ∀ k, k < 0 → parseFieldDescriptor (TJ9 k).2.2.1 = some (tyJ9 k) := by decide +kernel
abbrev cJ9_abs_0f7a4 : ByteArray := prog_17_method_59_code
def yJ9_abs_0f7a4 : MethodName := ⟨RJ9, "abs", "(I)I"⟩
abbrev cJ9_max_7cf53 : ByteArray := prog_17_method_65_code
def yJ9_max_7cf53 : MethodName := ⟨RJ9, "max", "(II)I"⟩
abbrev cJ9_min_7cf53 : ByteArray := prog_17_method_69_code
def yJ9_min_7cf53 : MethodName := ⟨RJ9, "min", "(II)I"⟩
def RJ0 : String := "java/lang/String"
def TJ0 : u_T := fun k => match k with
  | _ => ("", "", "", false)
def tyJ0 : Nat → FieldType := fun k => match k with
  | _ => .int
theorem nmJ0 : ∀ a, a < 0 → ∀ b, b < 0 → a ≠ b → (TJ0 a).2.1 ≠ (TJ0 b).2.1 := by decide +kernel
theorem tyJ0_ok : ∀ k, k < 0 → parseFieldDescriptor (TJ0 k).2.2.1 = some (tyJ0 k) := by decide +kernel
def RJ10 : String := "java/lang/System"
def TJ10 : u_T := fun k => match k with
  | _ => ("", "", "", false)
def tyJ10 : Nat → FieldType := fun k => match k with
  | _ => .int
theorem nmJ10 : ∀ a, a < 0 → ∀ b, b < 0 → a ≠ b → (TJ10 a).2.1 ≠ (TJ10 b).2.1 := by decide +kernel
theorem tyJ10_ok : ∀ k, k < 0 → parseFieldDescriptor (TJ10 k).2.2.1 = some (tyJ10 k) := by decide +kernel
def RJ7 : String := "java/util/Arrays"
def TJ7 : u_T := fun k => match k with
  | _ => ("", "", "", false)
def tyJ7 : Nat → FieldType := fun k => match k with
  | _ => .int
theorem nmJ7 : ∀ a, a < 0 → ∀ b, b < 0 → a ≠ b → (TJ7 a).2.1 ≠ (TJ7 b).2.1 := by decide +kernel
theorem tyJ7_ok : ∀ k, k < 0 → parseFieldDescriptor (TJ7 k).2.2.1 = some (tyJ7 k) := by decide +kernel
abbrev cJ7_fill_53178 : ByteArray := prog_22_method_103_code
def yJ7_fill_53178 : MethodName := ⟨RJ7, "fill", "([II)V"⟩
def RL : String := "StageHouseLaw"
abbrev cL_play : ByteArray := method_3_code
def yL_play : MethodName := ⟨RL, "play", "(LStageHouse;[J)I"⟩
abbrev cL_set : ByteArray := method_4_code
def yL_set : MethodName := ⟨RL, "set", "(LStageHouse;II[J)I"⟩
abbrev cL_variable : ByteArray := method_5_code
def yL_variable : MethodName := ⟨RL, "variable", "(LStageHouse;I[J)I"⟩
abbrev cL_actor : ByteArray := method_6_code
def yL_actor : MethodName := ⟨RL, "actor", "(LStageHouse;II[J)I"⟩
abbrev cL_object : ByteArray := method_7_code
def yL_object : MethodName := ⟨RL, "object", "(LStageHouse;II[J)I"⟩
abbrev cL_note : ByteArray := method_8_code
def yL_note : MethodName := ⟨RL, "note", "(LStageHouse;I[J)I"⟩
abbrev cL_sentence : ByteArray := method_9_code
def yL_sentence : MethodName := ⟨RL, "sentence", "(LStageHouse;II[J)I"⟩
abbrev cL_law : ByteArray := code
def yL_law : MethodName := ⟨RL, "law", "([I)Z"⟩
abbrev vwCl : List vw_C := [(RX0, TX0, 7), (RX1, TX1, 6), (RX2, TX2, 3), (RX3, TX3, 5), (RX4, TX4, 6), (RX5, TX5, 10), (RX6, TX6, 7), (RX7, TX7, 14), (RX8, TX8, 2), (RX9, TX9, 7), (RX10, TX10, 9), (RX11, TX11, 40)]
end
section
theorem dX0_init_0 : decode cX0_init 0 = .ok (.aload_n 0, 1) := by decide +kernel
theorem dX0_init_1 : decode cX0_init 1 = .ok (.invokespecial 3, 3) := by decide +kernel
theorem dX0_init_4 : decode cX0_init 4 = .ok (.return_, 1) := by decide +kernel
theorem dX0_putAt_0 : decode cX0_putAt 0 = .ok (.aload_n 0, 1) := by decide +kernel
theorem dX0_putAt_1 : decode cX0_putAt 1 = .ok (.iload_n 1, 1) := by decide +kernel
theorem dX0_putAt_2 : decode cX0_putAt 2 = .ok (.putfield 9, 3) := by decide +kernel
theorem dX0_putAt_5 : decode cX0_putAt 5 = .ok (.aload_n 0, 1) := by decide +kernel
theorem dX0_putAt_6 : decode cX0_putAt 6 = .ok (.iload_n 2, 1) := by decide +kernel
theorem dX0_putAt_7 : decode cX0_putAt 7 = .ok (.putfield 15, 3) := by decide +kernel
theorem dX0_putAt_10 : decode cX0_putAt 10 = .ok (.aload_n 0, 1) := by decide +kernel
theorem dX0_putAt_11 : decode cX0_putAt 11 = .ok (.iload_n 3, 1) := by decide +kernel
theorem dX0_putAt_12 : decode cX0_putAt 12 = .ok (.putfield 18, 3) := by decide +kernel
theorem dX0_putAt_15 : decode cX0_putAt 15 = .ok (.aload_n 0, 1) := by decide +kernel
theorem dX0_putAt_16 : decode cX0_putAt 16 = .ok (.invokevirtual 21, 3) := by decide +kernel
theorem dX0_putAt_19 : decode cX0_putAt 19 = .ok (.return_, 1) := by decide +kernel
theorem dX0_walkTo_0 : decode cX0_walkTo 0 = .ok (.aload_n 0, 1) := by decide +kernel
theorem dX0_walkTo_1 : decode cX0_walkTo 1 = .ok (.iconst 1, 1) := by decide +kernel
theorem dX0_walkTo_2 : decode cX0_walkTo 2 = .ok (.putfield 24, 3) := by decide +kernel
theorem dX0_walkTo_5 : decode cX0_walkTo 5 = .ok (.aload_n 0, 1) := by decide +kernel
theorem dX0_walkTo_6 : decode cX0_walkTo 6 = .ok (.iload_n 1, 1) := by decide +kernel
theorem dX0_walkTo_7 : decode cX0_walkTo 7 = .ok (.putfield 28, 3) := by decide +kernel
theorem dX0_walkTo_10 : decode cX0_walkTo 10 = .ok (.aload_n 0, 1) := by decide +kernel
theorem dX0_walkTo_11 : decode cX0_walkTo 11 = .ok (.iload_n 2, 1) := by decide +kernel
theorem dX0_walkTo_12 : decode cX0_walkTo 12 = .ok (.putfield 31, 3) := by decide +kernel
theorem dX0_walkTo_15 : decode cX0_walkTo 15 = .ok (.return_, 1) := by decide +kernel
theorem dX0_halt_0 : decode cX0_halt 0 = .ok (.aload_n 0, 1) := by decide +kernel
theorem dX0_halt_1 : decode cX0_halt 1 = .ok (.iconst 0, 1) := by decide +kernel
theorem dX0_halt_2 : decode cX0_halt 2 = .ok (.putfield 24, 3) := by decide +kernel
theorem dX0_halt_5 : decode cX0_halt 5 = .ok (.aload_n 0, 1) := by decide +kernel
theorem dX0_halt_6 : decode cX0_halt 6 = .ok (.iconst (-1), 1) := by decide +kernel
theorem dX0_halt_7 : decode cX0_halt 7 = .ok (.putfield 28, 3) := by decide +kernel
theorem dX0_halt_10 : decode cX0_halt 10 = .ok (.aload_n 0, 1) := by decide +kernel
theorem dX0_halt_11 : decode cX0_halt 11 = .ok (.iconst (-1), 1) := by decide +kernel
theorem dX0_halt_12 : decode cX0_halt 12 = .ok (.putfield 31, 3) := by decide +kernel
theorem dX0_halt_15 : decode cX0_halt 15 = .ok (.return_, 1) := by decide +kernel
theorem dX0_copyFrom_0 : decode cX0_copyFrom 0 = .ok (.aload_n 0, 1) := by decide +kernel
theorem dX0_copyFrom_1 : decode cX0_copyFrom 1 = .ok (.aload_n 1, 1) := by decide +kernel
theorem dX0_copyFrom_2 : decode cX0_copyFrom 2 = .ok (.getfield 9, 3) := by decide +kernel
theorem dX0_copyFrom_5 : decode cX0_copyFrom 5 = .ok (.putfield 9, 3) := by decide +kernel
theorem dX0_copyFrom_8 : decode cX0_copyFrom 8 = .ok (.aload_n 0, 1) := by decide +kernel
theorem dX0_copyFrom_9 : decode cX0_copyFrom 9 = .ok (.aload_n 1, 1) := by decide +kernel
theorem dX0_copyFrom_10 : decode cX0_copyFrom 10 = .ok (.getfield 15, 3) := by decide +kernel
theorem dX0_copyFrom_13 : decode cX0_copyFrom 13 = .ok (.putfield 15, 3) := by decide +kernel
theorem dX0_copyFrom_16 : decode cX0_copyFrom 16 = .ok (.aload_n 0, 1) := by decide +kernel
theorem dX0_copyFrom_17 : decode cX0_copyFrom 17 = .ok (.aload_n 1, 1) := by decide +kernel
theorem dX0_copyFrom_18 : decode cX0_copyFrom 18 = .ok (.getfield 18, 3) := by decide +kernel
theorem dX0_copyFrom_21 : decode cX0_copyFrom 21 = .ok (.putfield 18, 3) := by decide +kernel
theorem dX0_copyFrom_24 : decode cX0_copyFrom 24 = .ok (.aload_n 0, 1) := by decide +kernel
theorem dX0_copyFrom_25 : decode cX0_copyFrom 25 = .ok (.aload_n 1, 1) := by decide +kernel
theorem dX0_copyFrom_26 : decode cX0_copyFrom 26 = .ok (.getfield 34, 3) := by decide +kernel
theorem dX0_copyFrom_29 : decode cX0_copyFrom 29 = .ok (.putfield 34, 3) := by decide +kernel
theorem dX0_copyFrom_32 : decode cX0_copyFrom 32 = .ok (.aload_n 0, 1) := by decide +kernel
theorem dX0_copyFrom_33 : decode cX0_copyFrom 33 = .ok (.aload_n 1, 1) := by decide +kernel
theorem dX0_copyFrom_34 : decode cX0_copyFrom 34 = .ok (.getfield 24, 3) := by decide +kernel
theorem dX0_copyFrom_37 : decode cX0_copyFrom 37 = .ok (.putfield 24, 3) := by decide +kernel
theorem dX0_copyFrom_40 : decode cX0_copyFrom 40 = .ok (.aload_n 0, 1) := by decide +kernel
theorem dX0_copyFrom_41 : decode cX0_copyFrom 41 = .ok (.aload_n 1, 1) := by decide +kernel
theorem dX0_copyFrom_42 : decode cX0_copyFrom 42 = .ok (.getfield 28, 3) := by decide +kernel
theorem dX0_copyFrom_45 : decode cX0_copyFrom 45 = .ok (.putfield 28, 3) := by decide +kernel
theorem dX0_copyFrom_48 : decode cX0_copyFrom 48 = .ok (.aload_n 0, 1) := by decide +kernel
theorem dX0_copyFrom_49 : decode cX0_copyFrom 49 = .ok (.aload_n 1, 1) := by decide +kernel
theorem dX0_copyFrom_50 : decode cX0_copyFrom 50 = .ok (.getfield 31, 3) := by decide +kernel
theorem dX0_copyFrom_53 : decode cX0_copyFrom 53 = .ok (.putfield 31, 3) := by decide +kernel
theorem dX0_copyFrom_56 : decode cX0_copyFrom 56 = .ok (.return_, 1) := by decide +kernel
theorem dX0_number_0 : decode cX0_number 0 = .ok (.iload_n 1, 1) := by decide +kernel
theorem dX0_number_1 : decode cX0_number 1 = .ok (.tableswitch 86 0 6 #[43, 48, 53, 58, 63, 76, 81], 43) := by decide +kernel
theorem dX0_number_44 : decode cX0_number 44 = .ok (.aload_n 0, 1) := by decide +kernel
theorem dX0_number_45 : decode cX0_number 45 = .ok (.getfield 9, 3) := by decide +kernel
theorem dX0_number_48 : decode cX0_number 48 = .ok (.ireturn, 1) := by decide +kernel
theorem dX0_number_49 : decode cX0_number 49 = .ok (.aload_n 0, 1) := by decide +kernel
theorem dX0_number_50 : decode cX0_number 50 = .ok (.getfield 15, 3) := by decide +kernel
theorem dX0_number_53 : decode cX0_number 53 = .ok (.ireturn, 1) := by decide +kernel
theorem dX0_number_54 : decode cX0_number 54 = .ok (.aload_n 0, 1) := by decide +kernel
theorem dX0_number_55 : decode cX0_number 55 = .ok (.getfield 18, 3) := by decide +kernel
theorem dX0_number_58 : decode cX0_number 58 = .ok (.ireturn, 1) := by decide +kernel
theorem dX0_number_59 : decode cX0_number 59 = .ok (.aload_n 0, 1) := by decide +kernel
theorem dX0_number_60 : decode cX0_number 60 = .ok (.getfield 34, 3) := by decide +kernel
theorem dX0_number_63 : decode cX0_number 63 = .ok (.ireturn, 1) := by decide +kernel
theorem dX0_number_64 : decode cX0_number 64 = .ok (.aload_n 0, 1) := by decide +kernel
theorem dX0_number_65 : decode cX0_number 65 = .ok (.getfield 24, 3) := by decide +kernel
theorem dX0_number_68 : decode cX0_number 68 = .ok (.ifCond .eq 7, 3) := by decide +kernel
theorem dX0_number_71 : decode cX0_number 71 = .ok (.iconst 1, 1) := by decide +kernel
theorem dX0_number_72 : decode cX0_number 72 = .ok (.goto 4, 3) := by decide +kernel
theorem dX0_number_75 : decode cX0_number 75 = .ok (.iconst 0, 1) := by decide +kernel
theorem dX0_number_76 : decode cX0_number 76 = .ok (.ireturn, 1) := by decide +kernel
theorem dX0_number_77 : decode cX0_number 77 = .ok (.aload_n 0, 1) := by decide +kernel
theorem dX0_number_78 : decode cX0_number 78 = .ok (.getfield 28, 3) := by decide +kernel
theorem dX0_number_81 : decode cX0_number 81 = .ok (.ireturn, 1) := by decide +kernel
theorem dX0_number_82 : decode cX0_number 82 = .ok (.aload_n 0, 1) := by decide +kernel
theorem dX0_number_83 : decode cX0_number 83 = .ok (.getfield 31, 3) := by decide +kernel
theorem dX0_number_86 : decode cX0_number 86 = .ok (.ireturn, 1) := by decide +kernel
theorem dX0_number_87 : decode cX0_number 87 = .ok (.iconst (-1), 1) := by decide +kernel
theorem dX0_number_88 : decode cX0_number 88 = .ok (.ireturn, 1) := by decide +kernel
theorem dX1_init_0 : decode cX1_init 0 = .ok (.aload_n 0, 1) := by decide +kernel
theorem dX1_init_1 : decode cX1_init 1 = .ok (.invokespecial 3, 3) := by decide +kernel
theorem dX1_init_4 : decode cX1_init 4 = .ok (.aload_n 0, 1) := by decide +kernel
theorem dX1_init_5 : decode cX1_init 5 = .ok (.bipush 21, 2) := by decide +kernel
theorem dX1_init_7 : decode cX1_init 7 = .ok (.newarray .int, 2) := by decide +kernel
theorem dX1_init_9 : decode cX1_init 9 = .ok (.putfield 9, 3) := by decide +kernel
theorem dX1_init_12 : decode cX1_init 12 = .ok (.aload_n 0, 1) := by decide +kernel
theorem dX1_init_13 : decode cX1_init 13 = .ok (.sipush 336, 3) := by decide +kernel
theorem dX1_init_16 : decode cX1_init 16 = .ok (.newarray .int, 2) := by decide +kernel
theorem dX1_init_18 : decode cX1_init 18 = .ok (.putfield 15, 3) := by decide +kernel
theorem dX1_init_21 : decode cX1_init 21 = .ok (.aload_n 0, 1) := by decide +kernel
theorem dX1_init_22 : decode cX1_init 22 = .ok (.sipush 336, 3) := by decide +kernel
theorem dX1_init_25 : decode cX1_init 25 = .ok (.newarray .int, 2) := by decide +kernel
theorem dX1_init_27 : decode cX1_init 27 = .ok (.putfield 18, 3) := by decide +kernel
theorem dX1_init_30 : decode cX1_init 30 = .ok (.aload_n 0, 1) := by decide +kernel
theorem dX1_init_31 : decode cX1_init 31 = .ok (.sipush 336, 3) := by decide +kernel
theorem dX1_init_34 : decode cX1_init 34 = .ok (.newarray .int, 2) := by decide +kernel
theorem dX1_init_36 : decode cX1_init 36 = .ok (.putfield 21, 3) := by decide +kernel
theorem dX1_init_39 : decode cX1_init 39 = .ok (.aload_n 0, 1) := by decide +kernel
theorem dX1_init_40 : decode cX1_init 40 = .ok (.sipush 336, 3) := by decide +kernel
theorem dX1_init_43 : decode cX1_init 43 = .ok (.newarray .int, 2) := by decide +kernel
theorem dX1_init_45 : decode cX1_init 45 = .ok (.putfield 24, 3) := by decide +kernel
theorem dX1_init_48 : decode cX1_init 48 = .ok (.aload_n 0, 1) := by decide +kernel
theorem dX1_init_49 : decode cX1_init 49 = .ok (.sipush 336, 3) := by decide +kernel
theorem dX1_init_52 : decode cX1_init 52 = .ok (.newarray .int, 2) := by decide +kernel
theorem dX1_init_54 : decode cX1_init 54 = .ok (.putfield 27, 3) := by decide +kernel
theorem dX1_init_57 : decode cX1_init 57 = .ok (.return_, 1) := by decide +kernel
theorem dX1_lay_0 : decode cX1_lay 0 = .ok (.iconst 0, 1) := by decide +kernel
theorem dX1_lay_1 : decode cX1_lay 1 = .ok (.istore_n 2, 1) := by decide +kernel
theorem dX1_lay_2 : decode cX1_lay 2 = .ok (.iload_n 2, 1) := by decide +kernel
theorem dX1_lay_3 : decode cX1_lay 3 = .ok (.bipush 20, 2) := by decide +kernel
theorem dX1_lay_5 : decode cX1_lay 5 = .ok (.if_icmp .gt 116, 3) := by decide +kernel
theorem dX1_lay_8 : decode cX1_lay 8 = .ok (.aload_n 0, 1) := by decide +kernel
theorem dX1_lay_9 : decode cX1_lay 9 = .ok (.getfield 9, 3) := by decide +kernel
theorem dX1_lay_12 : decode cX1_lay 12 = .ok (.iload_n 2, 1) := by decide +kernel
theorem dX1_lay_13 : decode cX1_lay 13 = .ok (.iconst 0, 1) := by decide +kernel
theorem dX1_lay_14 : decode cX1_lay 14 = .ok (.bipush 16, 2) := by decide +kernel
theorem dX1_lay_16 : decode cX1_lay 16 = .ok (.aload_n 1, 1) := by decide +kernel
theorem dX1_lay_17 : decode cX1_lay 17 = .ok (.iload_n 2, 1) := by decide +kernel
theorem dX1_lay_18 : decode cX1_lay 18 = .ok (.invokevirtual 30, 3) := by decide +kernel
theorem dX1_lay_21 : decode cX1_lay 21 = .ok (.invokestatic 36, 3) := by decide +kernel
theorem dX1_lay_24 : decode cX1_lay 24 = .ok (.invokestatic 42, 3) := by decide +kernel
theorem dX1_lay_27 : decode cX1_lay 27 = .ok (.iastore, 1) := by decide +kernel
theorem dX1_lay_28 : decode cX1_lay 28 = .ok (.iconst 0, 1) := by decide +kernel
theorem dX1_lay_29 : decode cX1_lay 29 = .ok (.istore_n 3, 1) := by decide +kernel
theorem dX1_lay_30 : decode cX1_lay 30 = .ok (.iload_n 3, 1) := by decide +kernel
theorem dX1_lay_31 : decode cX1_lay 31 = .ok (.aload_n 0, 1) := by decide +kernel
theorem dX1_lay_32 : decode cX1_lay 32 = .ok (.getfield 9, 3) := by decide +kernel
theorem dX1_lay_35 : decode cX1_lay 35 = .ok (.iload_n 2, 1) := by decide +kernel
theorem dX1_lay_36 : decode cX1_lay 36 = .ok (.iaload, 1) := by decide +kernel
theorem dX1_lay_37 : decode cX1_lay 37 = .ok (.if_icmp .ge 73, 3) := by decide +kernel
theorem dX1_lay_40 : decode cX1_lay 40 = .ok (.iload_n 2, 1) := by decide +kernel
theorem dX1_lay_41 : decode cX1_lay 41 = .ok (.bipush 16, 2) := by decide +kernel
theorem dX1_lay_43 : decode cX1_lay 43 = .ok (.imul, 1) := by decide +kernel
theorem dX1_lay_44 : decode cX1_lay 44 = .ok (.iload_n 3, 1) := by decide +kernel
theorem dX1_lay_45 : decode cX1_lay 45 = .ok (.iadd, 1) := by decide +kernel
theorem dX1_lay_46 : decode cX1_lay 46 = .ok (.istore 4, 2) := by decide +kernel
theorem dX1_lay_48 : decode cX1_lay 48 = .ok (.aload_n 0, 1) := by decide +kernel
theorem dX1_lay_49 : decode cX1_lay 49 = .ok (.getfield 15, 3) := by decide +kernel
theorem dX1_lay_52 : decode cX1_lay 52 = .ok (.iload 4, 2) := by decide +kernel
theorem dX1_lay_54 : decode cX1_lay 54 = .ok (.aload_n 1, 1) := by decide +kernel
theorem dX1_lay_55 : decode cX1_lay 55 = .ok (.iload_n 2, 1) := by decide +kernel
theorem dX1_lay_56 : decode cX1_lay 56 = .ok (.iload_n 3, 1) := by decide +kernel
theorem dX1_lay_57 : decode cX1_lay 57 = .ok (.iconst 0, 1) := by decide +kernel
theorem dX1_lay_58 : decode cX1_lay 58 = .ok (.invokevirtual 45, 3) := by decide +kernel
theorem dX1_lay_61 : decode cX1_lay 61 = .ok (.iastore, 1) := by decide +kernel
theorem dX1_lay_62 : decode cX1_lay 62 = .ok (.aload_n 0, 1) := by decide +kernel
theorem dX1_lay_63 : decode cX1_lay 63 = .ok (.getfield 18, 3) := by decide +kernel
theorem dX1_lay_66 : decode cX1_lay 66 = .ok (.iload 4, 2) := by decide +kernel
theorem dX1_lay_68 : decode cX1_lay 68 = .ok (.aload_n 1, 1) := by decide +kernel
theorem dX1_lay_69 : decode cX1_lay 69 = .ok (.iload_n 2, 1) := by decide +kernel
theorem dX1_lay_70 : decode cX1_lay 70 = .ok (.iload_n 3, 1) := by decide +kernel
theorem dX1_lay_71 : decode cX1_lay 71 = .ok (.iconst 1, 1) := by decide +kernel
theorem dX1_lay_72 : decode cX1_lay 72 = .ok (.invokevirtual 45, 3) := by decide +kernel
theorem dX1_lay_75 : decode cX1_lay 75 = .ok (.iastore, 1) := by decide +kernel
theorem dX1_lay_76 : decode cX1_lay 76 = .ok (.aload_n 0, 1) := by decide +kernel
theorem dX1_lay_77 : decode cX1_lay 77 = .ok (.getfield 21, 3) := by decide +kernel
theorem dX1_lay_80 : decode cX1_lay 80 = .ok (.iload 4, 2) := by decide +kernel
theorem dX1_lay_82 : decode cX1_lay 82 = .ok (.aload_n 1, 1) := by decide +kernel
theorem dX1_lay_83 : decode cX1_lay 83 = .ok (.iload_n 2, 1) := by decide +kernel
theorem dX1_lay_84 : decode cX1_lay 84 = .ok (.iload_n 3, 1) := by decide +kernel
theorem dX1_lay_85 : decode cX1_lay 85 = .ok (.iconst 2, 1) := by decide +kernel
theorem dX1_lay_86 : decode cX1_lay 86 = .ok (.invokevirtual 45, 3) := by decide +kernel
theorem dX1_lay_89 : decode cX1_lay 89 = .ok (.iastore, 1) := by decide +kernel
theorem dX1_lay_90 : decode cX1_lay 90 = .ok (.aload_n 0, 1) := by decide +kernel
theorem dX1_lay_91 : decode cX1_lay 91 = .ok (.getfield 24, 3) := by decide +kernel
theorem dX1_lay_94 : decode cX1_lay 94 = .ok (.iload 4, 2) := by decide +kernel
theorem dX1_lay_96 : decode cX1_lay 96 = .ok (.aload_n 1, 1) := by decide +kernel
theorem dX1_lay_97 : decode cX1_lay 97 = .ok (.iload_n 2, 1) := by decide +kernel
theorem dX1_lay_98 : decode cX1_lay 98 = .ok (.iload_n 3, 1) := by decide +kernel
theorem dX1_lay_99 : decode cX1_lay 99 = .ok (.iconst 3, 1) := by decide +kernel
theorem dX1_lay_100 : decode cX1_lay 100 = .ok (.invokevirtual 45, 3) := by decide +kernel
theorem dX1_lay_103 : decode cX1_lay 103 = .ok (.iastore, 1) := by decide +kernel
theorem dX1_lay_104 : decode cX1_lay 104 = .ok (.iinc 3 1, 3) := by decide +kernel
theorem dX1_lay_107 : decode cX1_lay 107 = .ok (.goto (-77), 3) := by decide +kernel
theorem dX1_lay_110 : decode cX1_lay 110 = .ok (.aload_n 0, 1) := by decide +kernel
theorem dX1_lay_111 : decode cX1_lay 111 = .ok (.iload_n 2, 1) := by decide +kernel
theorem dX1_lay_112 : decode cX1_lay 112 = .ok (.invokevirtual 49, 3) := by decide +kernel
theorem dX1_lay_115 : decode cX1_lay 115 = .ok (.iinc 2 1, 3) := by decide +kernel
theorem dX1_lay_118 : decode cX1_lay 118 = .ok (.goto (-116), 3) := by decide +kernel
theorem dX1_lay_121 : decode cX1_lay 121 = .ok (.return_, 1) := by decide +kernel
theorem dX1_findNeighbours_0 : decode cX1_findNeighbours 0 = .ok (.iload_n 1, 1) := by decide +kernel
theorem dX1_findNeighbours_1 : decode cX1_findNeighbours 1 = .ok (.bipush 16, 2) := by decide +kernel
theorem dX1_findNeighbours_3 : decode cX1_findNeighbours 3 = .ok (.imul, 1) := by decide +kernel
theorem dX1_findNeighbours_4 : decode cX1_findNeighbours 4 = .ok (.istore_n 2, 1) := by decide +kernel
theorem dX1_findNeighbours_5 : decode cX1_findNeighbours 5 = .ok (.iconst 0, 1) := by decide +kernel
theorem dX1_findNeighbours_6 : decode cX1_findNeighbours 6 = .ok (.istore_n 3, 1) := by decide +kernel
theorem dX1_findNeighbours_7 : decode cX1_findNeighbours 7 = .ok (.iload_n 3, 1) := by decide +kernel
theorem dX1_findNeighbours_8 : decode cX1_findNeighbours 8 = .ok (.aload_n 0, 1) := by decide +kernel
theorem dX1_findNeighbours_9 : decode cX1_findNeighbours 9 = .ok (.getfield 9, 3) := by decide +kernel
theorem dX1_findNeighbours_12 : decode cX1_findNeighbours 12 = .ok (.iload_n 1, 1) := by decide +kernel
theorem dX1_findNeighbours_13 : decode cX1_findNeighbours 13 = .ok (.iaload, 1) := by decide +kernel
theorem dX1_findNeighbours_14 : decode cX1_findNeighbours 14 = .ok (.if_icmp .ge 67, 3) := by decide +kernel
theorem dX1_findNeighbours_17 : decode cX1_findNeighbours 17 = .ok (.aload_n 0, 1) := by decide +kernel
theorem dX1_findNeighbours_18 : decode cX1_findNeighbours 18 = .ok (.getfield 27, 3) := by decide +kernel
theorem dX1_findNeighbours_21 : decode cX1_findNeighbours 21 = .ok (.iload_n 2, 1) := by decide +kernel
theorem dX1_findNeighbours_22 : decode cX1_findNeighbours 22 = .ok (.iload_n 3, 1) := by decide +kernel
theorem dX1_findNeighbours_23 : decode cX1_findNeighbours 23 = .ok (.iadd, 1) := by decide +kernel
theorem dX1_findNeighbours_24 : decode cX1_findNeighbours 24 = .ok (.iconst 0, 1) := by decide +kernel
theorem dX1_findNeighbours_25 : decode cX1_findNeighbours 25 = .ok (.iastore, 1) := by decide +kernel
theorem dX1_findNeighbours_26 : decode cX1_findNeighbours 26 = .ok (.iconst 0, 1) := by decide +kernel
theorem dX1_findNeighbours_27 : decode cX1_findNeighbours 27 = .ok (.istore 4, 2) := by decide +kernel
theorem dX1_findNeighbours_29 : decode cX1_findNeighbours 29 = .ok (.iload 4, 2) := by decide +kernel
theorem dX1_findNeighbours_31 : decode cX1_findNeighbours 31 = .ok (.aload_n 0, 1) := by decide +kernel
theorem dX1_findNeighbours_32 : decode cX1_findNeighbours 32 = .ok (.getfield 9, 3) := by decide +kernel
theorem dX1_findNeighbours_35 : decode cX1_findNeighbours 35 = .ok (.iload_n 1, 1) := by decide +kernel
theorem dX1_findNeighbours_36 : decode cX1_findNeighbours 36 = .ok (.iaload, 1) := by decide +kernel
theorem dX1_findNeighbours_37 : decode cX1_findNeighbours 37 = .ok (.if_icmp .ge 38, 3) := by decide +kernel
theorem dX1_findNeighbours_40 : decode cX1_findNeighbours 40 = .ok (.aload_n 0, 1) := by decide +kernel
theorem dX1_findNeighbours_41 : decode cX1_findNeighbours 41 = .ok (.iload_n 2, 1) := by decide +kernel
theorem dX1_findNeighbours_42 : decode cX1_findNeighbours 42 = .ok (.iload_n 3, 1) := by decide +kernel
theorem dX1_findNeighbours_43 : decode cX1_findNeighbours 43 = .ok (.iadd, 1) := by decide +kernel
theorem dX1_findNeighbours_44 : decode cX1_findNeighbours 44 = .ok (.iload_n 2, 1) := by decide +kernel
theorem dX1_findNeighbours_45 : decode cX1_findNeighbours 45 = .ok (.iload 4, 2) := by decide +kernel
theorem dX1_findNeighbours_47 : decode cX1_findNeighbours 47 = .ok (.iadd, 1) := by decide +kernel
theorem dX1_findNeighbours_48 : decode cX1_findNeighbours 48 = .ok (.invokevirtual 53, 3) := by decide +kernel
theorem dX1_findNeighbours_51 : decode cX1_findNeighbours 51 = .ok (.ifCond .eq 18, 3) := by decide +kernel
theorem dX1_findNeighbours_54 : decode cX1_findNeighbours 54 = .ok (.aload_n 0, 1) := by decide +kernel
theorem dX1_findNeighbours_55 : decode cX1_findNeighbours 55 = .ok (.getfield 27, 3) := by decide +kernel
theorem dX1_findNeighbours_58 : decode cX1_findNeighbours 58 = .ok (.iload_n 2, 1) := by decide +kernel
theorem dX1_findNeighbours_59 : decode cX1_findNeighbours 59 = .ok (.iload_n 3, 1) := by decide +kernel
theorem dX1_findNeighbours_60 : decode cX1_findNeighbours 60 = .ok (.iadd, 1) := by decide +kernel
theorem dX1_findNeighbours_61 : decode cX1_findNeighbours 61 = .ok (.dup2, 1) := by decide +kernel
theorem dX1_findNeighbours_62 : decode cX1_findNeighbours 62 = .ok (.iaload, 1) := by decide +kernel
theorem dX1_findNeighbours_63 : decode cX1_findNeighbours 63 = .ok (.iconst 1, 1) := by decide +kernel
theorem dX1_findNeighbours_64 : decode cX1_findNeighbours 64 = .ok (.iload 4, 2) := by decide +kernel
theorem dX1_findNeighbours_66 : decode cX1_findNeighbours 66 = .ok (.ishl, 1) := by decide +kernel
theorem dX1_findNeighbours_67 : decode cX1_findNeighbours 67 = .ok (.ior, 1) := by decide +kernel
theorem dX1_findNeighbours_68 : decode cX1_findNeighbours 68 = .ok (.iastore, 1) := by decide +kernel
theorem dX1_findNeighbours_69 : decode cX1_findNeighbours 69 = .ok (.iinc 4 1, 3) := by decide +kernel
theorem dX1_findNeighbours_72 : decode cX1_findNeighbours 72 = .ok (.goto (-43), 3) := by decide +kernel
theorem dX1_findNeighbours_75 : decode cX1_findNeighbours 75 = .ok (.iinc 3 1, 3) := by decide +kernel
theorem dX1_findNeighbours_78 : decode cX1_findNeighbours 78 = .ok (.goto (-71), 3) := by decide +kernel
theorem dX1_findNeighbours_81 : decode cX1_findNeighbours 81 = .ok (.return_, 1) := by decide +kernel
theorem dX1_touch_0 : decode cX1_touch 0 = .ok (.iconst 0, 1) := by decide +kernel
theorem dX1_touch_1 : decode cX1_touch 1 = .ok (.aload_n 0, 1) := by decide +kernel
theorem dX1_touch_2 : decode cX1_touch 2 = .ok (.getfield 15, 3) := by decide +kernel
theorem dX1_touch_5 : decode cX1_touch 5 = .ok (.iload_n 1, 1) := by decide +kernel
theorem dX1_touch_6 : decode cX1_touch 6 = .ok (.iaload, 1) := by decide +kernel
theorem dX1_touch_7 : decode cX1_touch 7 = .ok (.aload_n 0, 1) := by decide +kernel
theorem dX1_touch_8 : decode cX1_touch 8 = .ok (.getfield 15, 3) := by decide +kernel
theorem dX1_touch_11 : decode cX1_touch 11 = .ok (.iload_n 2, 1) := by decide +kernel
theorem dX1_touch_12 : decode cX1_touch 12 = .ok (.iaload, 1) := by decide +kernel
theorem dX1_touch_13 : decode cX1_touch 13 = .ok (.invokestatic 42, 3) := by decide +kernel
theorem dX1_touch_16 : decode cX1_touch 16 = .ok (.aload_n 0, 1) := by decide +kernel
theorem dX1_touch_17 : decode cX1_touch 17 = .ok (.getfield 21, 3) := by decide +kernel
theorem dX1_touch_20 : decode cX1_touch 20 = .ok (.iload_n 1, 1) := by decide +kernel
theorem dX1_touch_21 : decode cX1_touch 21 = .ok (.iaload, 1) := by decide +kernel
theorem dX1_touch_22 : decode cX1_touch 22 = .ok (.aload_n 0, 1) := by decide +kernel
theorem dX1_touch_23 : decode cX1_touch 23 = .ok (.getfield 21, 3) := by decide +kernel
theorem dX1_touch_26 : decode cX1_touch 26 = .ok (.iload_n 2, 1) := by decide +kernel
theorem dX1_touch_27 : decode cX1_touch 27 = .ok (.iaload, 1) := by decide +kernel
theorem dX1_touch_28 : decode cX1_touch 28 = .ok (.invokestatic 36, 3) := by decide +kernel
theorem dX1_touch_31 : decode cX1_touch 31 = .ok (.isub, 1) := by decide +kernel
theorem dX1_touch_32 : decode cX1_touch 32 = .ok (.invokestatic 42, 3) := by decide +kernel
theorem dX1_touch_35 : decode cX1_touch 35 = .ok (.istore_n 3, 1) := by decide +kernel
theorem dX1_touch_36 : decode cX1_touch 36 = .ok (.iconst 0, 1) := by decide +kernel
theorem dX1_touch_37 : decode cX1_touch 37 = .ok (.aload_n 0, 1) := by decide +kernel
theorem dX1_touch_38 : decode cX1_touch 38 = .ok (.getfield 18, 3) := by decide +kernel
theorem dX1_touch_41 : decode cX1_touch 41 = .ok (.iload_n 1, 1) := by decide +kernel
theorem dX1_touch_42 : decode cX1_touch 42 = .ok (.iaload, 1) := by decide +kernel
theorem dX1_touch_43 : decode cX1_touch 43 = .ok (.aload_n 0, 1) := by decide +kernel
theorem dX1_touch_44 : decode cX1_touch 44 = .ok (.getfield 18, 3) := by decide +kernel
theorem dX1_touch_47 : decode cX1_touch 47 = .ok (.iload_n 2, 1) := by decide +kernel
theorem dX1_touch_48 : decode cX1_touch 48 = .ok (.iaload, 1) := by decide +kernel
theorem dX1_touch_49 : decode cX1_touch 49 = .ok (.invokestatic 42, 3) := by decide +kernel
theorem dX1_touch_52 : decode cX1_touch 52 = .ok (.aload_n 0, 1) := by decide +kernel
theorem dX1_touch_53 : decode cX1_touch 53 = .ok (.getfield 24, 3) := by decide +kernel
theorem dX1_touch_56 : decode cX1_touch 56 = .ok (.iload_n 1, 1) := by decide +kernel
theorem dX1_touch_57 : decode cX1_touch 57 = .ok (.iaload, 1) := by decide +kernel
theorem dX1_touch_58 : decode cX1_touch 58 = .ok (.aload_n 0, 1) := by decide +kernel
theorem dX1_touch_59 : decode cX1_touch 59 = .ok (.getfield 24, 3) := by decide +kernel
theorem dX1_touch_62 : decode cX1_touch 62 = .ok (.iload_n 2, 1) := by decide +kernel
theorem dX1_touch_63 : decode cX1_touch 63 = .ok (.iaload, 1) := by decide +kernel
theorem dX1_touch_64 : decode cX1_touch 64 = .ok (.invokestatic 36, 3) := by decide +kernel
theorem dX1_touch_67 : decode cX1_touch 67 = .ok (.isub, 1) := by decide +kernel
theorem dX1_touch_68 : decode cX1_touch 68 = .ok (.invokestatic 42, 3) := by decide +kernel
theorem dX1_touch_71 : decode cX1_touch 71 = .ok (.istore 4, 2) := by decide +kernel
theorem dX1_touch_73 : decode cX1_touch 73 = .ok (.iload_n 3, 1) := by decide +kernel
theorem dX1_touch_74 : decode cX1_touch 74 = .ok (.iload 4, 2) := by decide +kernel
theorem dX1_touch_76 : decode cX1_touch 76 = .ok (.iadd, 1) := by decide +kernel
theorem dX1_touch_77 : decode cX1_touch 77 = .ok (.iconst 1, 1) := by decide +kernel
theorem dX1_touch_78 : decode cX1_touch 78 = .ok (.if_icmp .gt 7, 3) := by decide +kernel
theorem dX1_touch_81 : decode cX1_touch 81 = .ok (.iconst 1, 1) := by decide +kernel
theorem dX1_touch_82 : decode cX1_touch 82 = .ok (.goto 4, 3) := by decide +kernel
theorem dX1_touch_85 : decode cX1_touch 85 = .ok (.iconst 0, 1) := by decide +kernel
theorem dX1_touch_86 : decode cX1_touch 86 = .ok (.ireturn, 1) := by decide +kernel
theorem dX1_hasBox_0 : decode cX1_hasBox 0 = .ok (.iload_n 1, 1) := by decide +kernel
theorem dX1_hasBox_1 : decode cX1_hasBox 1 = .ok (.ifCond .le 27, 3) := by decide +kernel
theorem dX1_hasBox_4 : decode cX1_hasBox 4 = .ok (.iload_n 1, 1) := by decide +kernel
theorem dX1_hasBox_5 : decode cX1_hasBox 5 = .ok (.bipush 20, 2) := by decide +kernel
theorem dX1_hasBox_7 : decode cX1_hasBox 7 = .ok (.if_icmp .gt 21, 3) := by decide +kernel
theorem dX1_hasBox_10 : decode cX1_hasBox 10 = .ok (.iload_n 2, 1) := by decide +kernel
theorem dX1_hasBox_11 : decode cX1_hasBox 11 = .ok (.ifCond .lt 17, 3) := by decide +kernel
theorem dX1_hasBox_14 : decode cX1_hasBox 14 = .ok (.iload_n 2, 1) := by decide +kernel
theorem dX1_hasBox_15 : decode cX1_hasBox 15 = .ok (.aload_n 0, 1) := by decide +kernel
theorem dX1_hasBox_16 : decode cX1_hasBox 16 = .ok (.getfield 9, 3) := by decide +kernel
theorem dX1_hasBox_19 : decode cX1_hasBox 19 = .ok (.iload_n 1, 1) := by decide +kernel
theorem dX1_hasBox_20 : decode cX1_hasBox 20 = .ok (.iaload, 1) := by decide +kernel
theorem dX1_hasBox_21 : decode cX1_hasBox 21 = .ok (.if_icmp .ge 7, 3) := by decide +kernel
theorem dX1_hasBox_24 : decode cX1_hasBox 24 = .ok (.iconst 1, 1) := by decide +kernel
theorem dX1_hasBox_25 : decode cX1_hasBox 25 = .ok (.goto 4, 3) := by decide +kernel
theorem dX1_hasBox_28 : decode cX1_hasBox 28 = .ok (.iconst 0, 1) := by decide +kernel
theorem dX1_hasBox_29 : decode cX1_hasBox 29 = .ok (.ireturn, 1) := by decide +kernel
theorem dX1_corner_0 : decode cX1_corner 0 = .ok (.iload_n 1, 1) := by decide +kernel
theorem dX1_corner_1 : decode cX1_corner 1 = .ok (.bipush 16, 2) := by decide +kernel
theorem dX1_corner_3 : decode cX1_corner 3 = .ok (.imul, 1) := by decide +kernel
theorem dX1_corner_4 : decode cX1_corner 4 = .ok (.iload_n 2, 1) := by decide +kernel
theorem dX1_corner_5 : decode cX1_corner 5 = .ok (.iadd, 1) := by decide +kernel
theorem dX1_corner_6 : decode cX1_corner 6 = .ok (.istore 4, 2) := by decide +kernel
theorem dX1_corner_8 : decode cX1_corner 8 = .ok (.iload_n 3, 1) := by decide +kernel
theorem dX1_corner_9 : decode cX1_corner 9 = .ok (.tableswitch 63 0 3 #[31, 39, 47, 55], 31) := by decide +kernel
theorem dX1_corner_40 : decode cX1_corner 40 = .ok (.aload_n 0, 1) := by decide +kernel
theorem dX1_corner_41 : decode cX1_corner 41 = .ok (.getfield 15, 3) := by decide +kernel
theorem dX1_corner_44 : decode cX1_corner 44 = .ok (.iload 4, 2) := by decide +kernel
theorem dX1_corner_46 : decode cX1_corner 46 = .ok (.iaload, 1) := by decide +kernel
theorem dX1_corner_47 : decode cX1_corner 47 = .ok (.ireturn, 1) := by decide +kernel
theorem dX1_corner_48 : decode cX1_corner 48 = .ok (.aload_n 0, 1) := by decide +kernel
theorem dX1_corner_49 : decode cX1_corner 49 = .ok (.getfield 18, 3) := by decide +kernel
theorem dX1_corner_52 : decode cX1_corner 52 = .ok (.iload 4, 2) := by decide +kernel
theorem dX1_corner_54 : decode cX1_corner 54 = .ok (.iaload, 1) := by decide +kernel
theorem dX1_corner_55 : decode cX1_corner 55 = .ok (.ireturn, 1) := by decide +kernel
theorem dX1_corner_56 : decode cX1_corner 56 = .ok (.aload_n 0, 1) := by decide +kernel
theorem dX1_corner_57 : decode cX1_corner 57 = .ok (.getfield 21, 3) := by decide +kernel
theorem dX1_corner_60 : decode cX1_corner 60 = .ok (.iload 4, 2) := by decide +kernel
theorem dX1_corner_62 : decode cX1_corner 62 = .ok (.iaload, 1) := by decide +kernel
theorem dX1_corner_63 : decode cX1_corner 63 = .ok (.ireturn, 1) := by decide +kernel
theorem dX1_corner_64 : decode cX1_corner 64 = .ok (.aload_n 0, 1) := by decide +kernel
theorem dX1_corner_65 : decode cX1_corner 65 = .ok (.getfield 24, 3) := by decide +kernel
theorem dX1_corner_68 : decode cX1_corner 68 = .ok (.iload 4, 2) := by decide +kernel
theorem dX1_corner_70 : decode cX1_corner 70 = .ok (.iaload, 1) := by decide +kernel
theorem dX1_corner_71 : decode cX1_corner 71 = .ok (.ireturn, 1) := by decide +kernel
theorem dX1_corner_72 : decode cX1_corner 72 = .ok (.iconst (-1), 1) := by decide +kernel
theorem dX1_corner_73 : decode cX1_corner 73 = .ok (.ireturn, 1) := by decide +kernel
theorem dX1_hasPoint_0 : decode cX1_hasPoint 0 = .ok (.iload_n 1, 1) := by decide +kernel
theorem dX1_hasPoint_1 : decode cX1_hasPoint 1 = .ok (.bipush 16, 2) := by decide +kernel
theorem dX1_hasPoint_3 : decode cX1_hasPoint 3 = .ok (.imul, 1) := by decide +kernel
theorem dX1_hasPoint_4 : decode cX1_hasPoint 4 = .ok (.iload_n 2, 1) := by decide +kernel
theorem dX1_hasPoint_5 : decode cX1_hasPoint 5 = .ok (.iadd, 1) := by decide +kernel
theorem dX1_hasPoint_6 : decode cX1_hasPoint 6 = .ok (.istore 5, 2) := by decide +kernel
theorem dX1_hasPoint_8 : decode cX1_hasPoint 8 = .ok (.iload_n 3, 1) := by decide +kernel
theorem dX1_hasPoint_9 : decode cX1_hasPoint 9 = .ok (.aload_n 0, 1) := by decide +kernel
theorem dX1_hasPoint_10 : decode cX1_hasPoint 10 = .ok (.getfield 15, 3) := by decide +kernel
theorem dX1_hasPoint_13 : decode cX1_hasPoint 13 = .ok (.iload 5, 2) := by decide +kernel
theorem dX1_hasPoint_15 : decode cX1_hasPoint 15 = .ok (.iaload, 1) := by decide +kernel
theorem dX1_hasPoint_16 : decode cX1_hasPoint 16 = .ok (.if_icmp .lt 42, 3) := by decide +kernel
theorem dX1_hasPoint_19 : decode cX1_hasPoint 19 = .ok (.iload_n 3, 1) := by decide +kernel
theorem dX1_hasPoint_20 : decode cX1_hasPoint 20 = .ok (.aload_n 0, 1) := by decide +kernel
theorem dX1_hasPoint_21 : decode cX1_hasPoint 21 = .ok (.getfield 21, 3) := by decide +kernel
theorem dX1_hasPoint_24 : decode cX1_hasPoint 24 = .ok (.iload 5, 2) := by decide +kernel
theorem dX1_hasPoint_26 : decode cX1_hasPoint 26 = .ok (.iaload, 1) := by decide +kernel
theorem dX1_hasPoint_27 : decode cX1_hasPoint 27 = .ok (.if_icmp .gt 31, 3) := by decide +kernel
theorem dX1_hasPoint_30 : decode cX1_hasPoint 30 = .ok (.iload 4, 2) := by decide +kernel
theorem dX1_hasPoint_32 : decode cX1_hasPoint 32 = .ok (.aload_n 0, 1) := by decide +kernel
theorem dX1_hasPoint_33 : decode cX1_hasPoint 33 = .ok (.getfield 18, 3) := by decide +kernel
theorem dX1_hasPoint_36 : decode cX1_hasPoint 36 = .ok (.iload 5, 2) := by decide +kernel
theorem dX1_hasPoint_38 : decode cX1_hasPoint 38 = .ok (.iaload, 1) := by decide +kernel
theorem dX1_hasPoint_39 : decode cX1_hasPoint 39 = .ok (.if_icmp .lt 19, 3) := by decide +kernel
theorem dX1_hasPoint_42 : decode cX1_hasPoint 42 = .ok (.iload 4, 2) := by decide +kernel
theorem dX1_hasPoint_44 : decode cX1_hasPoint 44 = .ok (.aload_n 0, 1) := by decide +kernel
theorem dX1_hasPoint_45 : decode cX1_hasPoint 45 = .ok (.getfield 24, 3) := by decide +kernel
theorem dX1_hasPoint_48 : decode cX1_hasPoint 48 = .ok (.iload 5, 2) := by decide +kernel
theorem dX1_hasPoint_50 : decode cX1_hasPoint 50 = .ok (.iaload, 1) := by decide +kernel
theorem dX1_hasPoint_51 : decode cX1_hasPoint 51 = .ok (.if_icmp .gt 7, 3) := by decide +kernel
theorem dX1_hasPoint_54 : decode cX1_hasPoint 54 = .ok (.iconst 1, 1) := by decide +kernel
theorem dX1_hasPoint_55 : decode cX1_hasPoint 55 = .ok (.goto 4, 3) := by decide +kernel
theorem dX1_hasPoint_58 : decode cX1_hasPoint 58 = .ok (.iconst 0, 1) := by decide +kernel
theorem dX1_hasPoint_59 : decode cX1_hasPoint 59 = .ok (.ireturn, 1) := by decide +kernel
theorem dX1_nearestX_0 : decode cX1_nearestX 0 = .ok (.iload_n 1, 1) := by decide +kernel
theorem dX1_nearestX_1 : decode cX1_nearestX 1 = .ok (.bipush 16, 2) := by decide +kernel
theorem dX1_nearestX_3 : decode cX1_nearestX 3 = .ok (.imul, 1) := by decide +kernel
theorem dX1_nearestX_4 : decode cX1_nearestX 4 = .ok (.iload_n 2, 1) := by decide +kernel
theorem dX1_nearestX_5 : decode cX1_nearestX 5 = .ok (.iadd, 1) := by decide +kernel
theorem dX1_nearestX_6 : decode cX1_nearestX 6 = .ok (.istore 4, 2) := by decide +kernel
theorem dX1_nearestX_8 : decode cX1_nearestX 8 = .ok (.aload_n 0, 1) := by decide +kernel
theorem dX1_nearestX_9 : decode cX1_nearestX 9 = .ok (.getfield 15, 3) := by decide +kernel
theorem dX1_nearestX_12 : decode cX1_nearestX 12 = .ok (.iload 4, 2) := by decide +kernel
theorem dX1_nearestX_14 : decode cX1_nearestX 14 = .ok (.iaload, 1) := by decide +kernel
theorem dX1_nearestX_15 : decode cX1_nearestX 15 = .ok (.aload_n 0, 1) := by decide +kernel
theorem dX1_nearestX_16 : decode cX1_nearestX 16 = .ok (.getfield 21, 3) := by decide +kernel
theorem dX1_nearestX_19 : decode cX1_nearestX 19 = .ok (.iload 4, 2) := by decide +kernel
theorem dX1_nearestX_21 : decode cX1_nearestX 21 = .ok (.iaload, 1) := by decide +kernel
theorem dX1_nearestX_22 : decode cX1_nearestX 22 = .ok (.iload_n 3, 1) := by decide +kernel
theorem dX1_nearestX_23 : decode cX1_nearestX 23 = .ok (.invokestatic 36, 3) := by decide +kernel
theorem dX1_nearestX_26 : decode cX1_nearestX 26 = .ok (.invokestatic 42, 3) := by decide +kernel
theorem dX1_nearestX_29 : decode cX1_nearestX 29 = .ok (.ireturn, 1) := by decide +kernel
theorem dX1_nearestY_0 : decode cX1_nearestY 0 = .ok (.iload_n 1, 1) := by decide +kernel
theorem dX1_nearestY_1 : decode cX1_nearestY 1 = .ok (.bipush 16, 2) := by decide +kernel
theorem dX1_nearestY_3 : decode cX1_nearestY 3 = .ok (.imul, 1) := by decide +kernel
theorem dX1_nearestY_4 : decode cX1_nearestY 4 = .ok (.iload_n 2, 1) := by decide +kernel
theorem dX1_nearestY_5 : decode cX1_nearestY 5 = .ok (.iadd, 1) := by decide +kernel
theorem dX1_nearestY_6 : decode cX1_nearestY 6 = .ok (.istore 4, 2) := by decide +kernel
theorem dX1_nearestY_8 : decode cX1_nearestY 8 = .ok (.aload_n 0, 1) := by decide +kernel
theorem dX1_nearestY_9 : decode cX1_nearestY 9 = .ok (.getfield 18, 3) := by decide +kernel
theorem dX1_nearestY_12 : decode cX1_nearestY 12 = .ok (.iload 4, 2) := by decide +kernel
theorem dX1_nearestY_14 : decode cX1_nearestY 14 = .ok (.iaload, 1) := by decide +kernel
theorem dX1_nearestY_15 : decode cX1_nearestY 15 = .ok (.aload_n 0, 1) := by decide +kernel
theorem dX1_nearestY_16 : decode cX1_nearestY 16 = .ok (.getfield 24, 3) := by decide +kernel
theorem dX1_nearestY_19 : decode cX1_nearestY 19 = .ok (.iload 4, 2) := by decide +kernel
theorem dX1_nearestY_21 : decode cX1_nearestY 21 = .ok (.iaload, 1) := by decide +kernel
theorem dX1_nearestY_22 : decode cX1_nearestY 22 = .ok (.iload_n 3, 1) := by decide +kernel
theorem dX1_nearestY_23 : decode cX1_nearestY 23 = .ok (.invokestatic 36, 3) := by decide +kernel
theorem dX1_nearestY_26 : decode cX1_nearestY 26 = .ok (.invokestatic 42, 3) := by decide +kernel
theorem dX1_nearestY_29 : decode cX1_nearestY 29 = .ok (.ireturn, 1) := by decide +kernel
theorem dX2_init_0 : decode cX2_init 0 = .ok (.aload_n 0, 1) := by decide +kernel
theorem dX2_init_1 : decode cX2_init 1 = .ok (.invokespecial 1, 3) := by decide +kernel
theorem dX2_init_4 : decode cX2_init 4 = .ok (.aload_n 0, 1) := by decide +kernel
theorem dX2_init_5 : decode cX2_init 5 = .ok (.iload_n 1, 1) := by decide +kernel
theorem dX2_init_6 : decode cX2_init 6 = .ok (.iconst 1, 1) := by decide +kernel
theorem dX2_init_7 : decode cX2_init 7 = .ok (.iadd, 1) := by decide +kernel
theorem dX2_init_8 : decode cX2_init 8 = .ok (.newarray .int, 2) := by decide +kernel
theorem dX2_init_10 : decode cX2_init 10 = .ok (.putfield 7, 3) := by decide +kernel
theorem dX2_init_13 : decode cX2_init 13 = .ok (.aload_n 0, 1) := by decide +kernel
theorem dX2_init_14 : decode cX2_init 14 = .ok (.iload_n 1, 1) := by decide +kernel
theorem dX2_init_15 : decode cX2_init 15 = .ok (.iconst 1, 1) := by decide +kernel
theorem dX2_init_16 : decode cX2_init 16 = .ok (.iadd, 1) := by decide +kernel
theorem dX2_init_17 : decode cX2_init 17 = .ok (.newarray .int, 2) := by decide +kernel
theorem dX2_init_19 : decode cX2_init 19 = .ok (.putfield 13, 3) := by decide +kernel
theorem dX2_init_22 : decode cX2_init 22 = .ok (.return_, 1) := by decide +kernel
theorem dX2_isNumber_0 : decode cX2_isNumber 0 = .ok (.iload_n 1, 1) := by decide +kernel
theorem dX2_isNumber_1 : decode cX2_isNumber 1 = .ok (.ifCond .le 16, 3) := by decide +kernel
theorem dX2_isNumber_4 : decode cX2_isNumber 4 = .ok (.iload_n 1, 1) := by decide +kernel
theorem dX2_isNumber_5 : decode cX2_isNumber 5 = .ok (.aload_n 0, 1) := by decide +kernel
theorem dX2_isNumber_6 : decode cX2_isNumber 6 = .ok (.getfield 7, 3) := by decide +kernel
theorem dX2_isNumber_9 : decode cX2_isNumber 9 = .ok (.arraylength, 1) := by decide +kernel
theorem dX2_isNumber_10 : decode cX2_isNumber 10 = .ok (.if_icmp .ge 7, 3) := by decide +kernel
theorem dX2_isNumber_13 : decode cX2_isNumber 13 = .ok (.iconst 1, 1) := by decide +kernel
theorem dX2_isNumber_14 : decode cX2_isNumber 14 = .ok (.goto 4, 3) := by decide +kernel
theorem dX2_isNumber_17 : decode cX2_isNumber 17 = .ok (.iconst 0, 1) := by decide +kernel
theorem dX2_isNumber_18 : decode cX2_isNumber 18 = .ok (.ireturn, 1) := by decide +kernel
theorem dX2_has_0 : decode cX2_has 0 = .ok (.iload_n 1, 1) := by decide +kernel
theorem dX2_has_1 : decode cX2_has 1 = .ok (.ifCond .le 25, 3) := by decide +kernel
theorem dX2_has_4 : decode cX2_has 4 = .ok (.iload_n 1, 1) := by decide +kernel
theorem dX2_has_5 : decode cX2_has 5 = .ok (.aload_n 0, 1) := by decide +kernel
theorem dX2_has_6 : decode cX2_has 6 = .ok (.getfield 7, 3) := by decide +kernel
theorem dX2_has_9 : decode cX2_has 9 = .ok (.arraylength, 1) := by decide +kernel
theorem dX2_has_10 : decode cX2_has 10 = .ok (.if_icmp .ge 16, 3) := by decide +kernel
theorem dX2_has_13 : decode cX2_has 13 = .ok (.aload_n 0, 1) := by decide +kernel
theorem dX2_has_14 : decode cX2_has 14 = .ok (.getfield 7, 3) := by decide +kernel
theorem dX2_has_17 : decode cX2_has 17 = .ok (.iload_n 1, 1) := by decide +kernel
theorem dX2_has_18 : decode cX2_has 18 = .ok (.iaload, 1) := by decide +kernel
theorem dX2_has_19 : decode cX2_has 19 = .ok (.ifCond .eq 7, 3) := by decide +kernel
theorem dX2_has_22 : decode cX2_has 22 = .ok (.iconst 1, 1) := by decide +kernel
theorem dX2_has_23 : decode cX2_has 23 = .ok (.goto 4, 3) := by decide +kernel
theorem dX2_has_26 : decode cX2_has 26 = .ok (.iconst 0, 1) := by decide +kernel
theorem dX2_has_27 : decode cX2_has 27 = .ok (.ireturn, 1) := by decide +kernel
theorem dX2_put_0 : decode cX2_put 0 = .ok (.aload_n 0, 1) := by decide +kernel
theorem dX2_put_1 : decode cX2_put 1 = .ok (.iload_n 1, 1) := by decide +kernel
theorem dX2_put_2 : decode cX2_put 2 = .ok (.invokevirtual 16, 3) := by decide +kernel
theorem dX2_put_5 : decode cX2_put 5 = .ok (.ifCond .eq 27, 3) := by decide +kernel
theorem dX2_put_8 : decode cX2_put 8 = .ok (.aload_n 0, 1) := by decide +kernel
theorem dX2_put_9 : decode cX2_put 9 = .ok (.getfield 7, 3) := by decide +kernel
theorem dX2_put_12 : decode cX2_put 12 = .ok (.iload_n 1, 1) := by decide +kernel
theorem dX2_put_13 : decode cX2_put 13 = .ok (.iload_n 2, 1) := by decide +kernel
theorem dX2_put_14 : decode cX2_put 14 = .ok (.iastore, 1) := by decide +kernel
theorem dX2_put_15 : decode cX2_put 15 = .ok (.aload_n 0, 1) := by decide +kernel
theorem dX2_put_16 : decode cX2_put 16 = .ok (.getfield 13, 3) := by decide +kernel
theorem dX2_put_19 : decode cX2_put 19 = .ok (.iload_n 1, 1) := by decide +kernel
theorem dX2_put_20 : decode cX2_put 20 = .ok (.iload_n 3, 1) := by decide +kernel
theorem dX2_put_21 : decode cX2_put 21 = .ok (.iastore, 1) := by decide +kernel
theorem dX2_put_22 : decode cX2_put 22 = .ok (.aload_n 0, 1) := by decide +kernel
theorem dX2_put_23 : decode cX2_put 23 = .ok (.dup, 1) := by decide +kernel
theorem dX2_put_24 : decode cX2_put 24 = .ok (.getfield 20, 3) := by decide +kernel
theorem dX2_put_27 : decode cX2_put 27 = .ok (.iconst 1, 1) := by decide +kernel
theorem dX2_put_28 : decode cX2_put 28 = .ok (.iadd, 1) := by decide +kernel
theorem dX2_put_29 : decode cX2_put 29 = .ok (.putfield 20, 3) := by decide +kernel
theorem dX2_put_32 : decode cX2_put 32 = .ok (.return_, 1) := by decide +kernel
theorem dX2_clear_0 : decode cX2_clear 0 = .ok (.aload_n 0, 1) := by decide +kernel
theorem dX2_clear_1 : decode cX2_clear 1 = .ok (.getfield 7, 3) := by decide +kernel
theorem dX2_clear_4 : decode cX2_clear 4 = .ok (.iconst 0, 1) := by decide +kernel
theorem dX2_clear_5 : decode cX2_clear 5 = .ok (.invokestatic 24, 3) := by decide +kernel
theorem dX2_clear_8 : decode cX2_clear 8 = .ok (.aload_n 0, 1) := by decide +kernel
theorem dX2_clear_9 : decode cX2_clear 9 = .ok (.getfield 13, 3) := by decide +kernel
theorem dX2_clear_12 : decode cX2_clear 12 = .ok (.iconst 0, 1) := by decide +kernel
theorem dX2_clear_13 : decode cX2_clear 13 = .ok (.invokestatic 24, 3) := by decide +kernel
theorem dX2_clear_16 : decode cX2_clear 16 = .ok (.aload_n 0, 1) := by decide +kernel
theorem dX2_clear_17 : decode cX2_clear 17 = .ok (.iconst 0, 1) := by decide +kernel
theorem dX2_clear_18 : decode cX2_clear 18 = .ok (.putfield 20, 3) := by decide +kernel
theorem dX2_clear_21 : decode cX2_clear 21 = .ok (.return_, 1) := by decide +kernel
theorem dX2_copyFrom_0 : decode cX2_copyFrom 0 = .ok (.aload_n 0, 1) := by decide +kernel
theorem dX2_copyFrom_1 : decode cX2_copyFrom 1 = .ok (.getfield 7, 3) := by decide +kernel
theorem dX2_copyFrom_4 : decode cX2_copyFrom 4 = .ok (.arraylength, 1) := by decide +kernel
theorem dX2_copyFrom_5 : decode cX2_copyFrom 5 = .ok (.aload_n 1, 1) := by decide +kernel
theorem dX2_copyFrom_6 : decode cX2_copyFrom 6 = .ok (.getfield 7, 3) := by decide +kernel
theorem dX2_copyFrom_9 : decode cX2_copyFrom 9 = .ok (.arraylength, 1) := by decide +kernel
theorem dX2_copyFrom_10 : decode cX2_copyFrom 10 = .ok (.invokestatic 30, 3) := by decide +kernel
theorem dX2_copyFrom_13 : decode cX2_copyFrom 13 = .ok (.istore_n 2, 1) := by decide +kernel
theorem dX2_copyFrom_14 : decode cX2_copyFrom 14 = .ok (.aload_n 1, 1) := by decide +kernel
theorem dX2_copyFrom_15 : decode cX2_copyFrom 15 = .ok (.getfield 7, 3) := by decide +kernel
theorem dX2_copyFrom_18 : decode cX2_copyFrom 18 = .ok (.iconst 0, 1) := by decide +kernel
theorem dX2_copyFrom_19 : decode cX2_copyFrom 19 = .ok (.aload_n 0, 1) := by decide +kernel
theorem dX2_copyFrom_20 : decode cX2_copyFrom 20 = .ok (.getfield 7, 3) := by decide +kernel
theorem dX2_copyFrom_23 : decode cX2_copyFrom 23 = .ok (.iconst 0, 1) := by decide +kernel
theorem dX2_copyFrom_24 : decode cX2_copyFrom 24 = .ok (.iload_n 2, 1) := by decide +kernel
theorem dX2_copyFrom_25 : decode cX2_copyFrom 25 = .ok (.invokestatic 36, 3) := by decide +kernel
theorem dX2_copyFrom_28 : decode cX2_copyFrom 28 = .ok (.aload_n 1, 1) := by decide +kernel
theorem dX2_copyFrom_29 : decode cX2_copyFrom 29 = .ok (.getfield 13, 3) := by decide +kernel
theorem dX2_copyFrom_32 : decode cX2_copyFrom 32 = .ok (.iconst 0, 1) := by decide +kernel
theorem dX2_copyFrom_33 : decode cX2_copyFrom 33 = .ok (.aload_n 0, 1) := by decide +kernel
theorem dX2_copyFrom_34 : decode cX2_copyFrom 34 = .ok (.getfield 13, 3) := by decide +kernel
theorem dX2_copyFrom_37 : decode cX2_copyFrom 37 = .ok (.iconst 0, 1) := by decide +kernel
theorem dX2_copyFrom_38 : decode cX2_copyFrom 38 = .ok (.iload_n 2, 1) := by decide +kernel
theorem dX2_copyFrom_39 : decode cX2_copyFrom 39 = .ok (.invokestatic 36, 3) := by decide +kernel
theorem dX2_copyFrom_42 : decode cX2_copyFrom 42 = .ok (.aload_n 0, 1) := by decide +kernel
theorem dX2_copyFrom_43 : decode cX2_copyFrom 43 = .ok (.aload_n 1, 1) := by decide +kernel
theorem dX2_copyFrom_44 : decode cX2_copyFrom 44 = .ok (.getfield 20, 3) := by decide +kernel
theorem dX2_copyFrom_47 : decode cX2_copyFrom 47 = .ok (.putfield 20, 3) := by decide +kernel
theorem dX2_copyFrom_50 : decode cX2_copyFrom 50 = .ok (.return_, 1) := by decide +kernel
theorem dX3_init_0 : decode cX3_init 0 = .ok (.aload_n 0, 1) := by decide +kernel
theorem dX3_init_1 : decode cX3_init 1 = .ok (.invokespecial 3, 3) := by decide +kernel
theorem dX3_init_4 : decode cX3_init 4 = .ok (.aload_n 0, 1) := by decide +kernel
theorem dX3_init_5 : decode cX3_init 5 = .ok (.new 9, 3) := by decide +kernel
theorem dX3_init_8 : decode cX3_init 8 = .ok (.dup, 1) := by decide +kernel
theorem dX3_init_9 : decode cX3_init 9 = .ok (.invokespecial 11, 3) := by decide +kernel
theorem dX3_init_12 : decode cX3_init 12 = .ok (.putfield 12, 3) := by decide +kernel
theorem dX3_init_15 : decode cX3_init 15 = .ok (.aload_n 0, 1) := by decide +kernel
theorem dX3_init_16 : decode cX3_init 16 = .ok (.new 18, 3) := by decide +kernel
theorem dX3_init_19 : decode cX3_init 19 = .ok (.dup, 1) := by decide +kernel
theorem dX3_init_20 : decode cX3_init 20 = .ok (.bipush 20, 2) := by decide +kernel
theorem dX3_init_22 : decode cX3_init 22 = .ok (.invokespecial 20, 3) := by decide +kernel
theorem dX3_init_25 : decode cX3_init 25 = .ok (.putfield 23, 3) := by decide +kernel
theorem dX3_init_28 : decode cX3_init 28 = .ok (.aload_n 0, 1) := by decide +kernel
theorem dX3_init_29 : decode cX3_init 29 = .ok (.new 18, 3) := by decide +kernel
theorem dX3_init_32 : decode cX3_init 32 = .ok (.dup, 1) := by decide +kernel
theorem dX3_init_33 : decode cX3_init 33 = .ok (.bipush 60, 2) := by decide +kernel
theorem dX3_init_35 : decode cX3_init 35 = .ok (.invokespecial 20, 3) := by decide +kernel
theorem dX3_init_38 : decode cX3_init 38 = .ok (.putfield 27, 3) := by decide +kernel
theorem dX3_init_41 : decode cX3_init 41 = .ok (.aload_n 0, 1) := by decide +kernel
theorem dX3_init_42 : decode cX3_init 42 = .ok (.new 18, 3) := by decide +kernel
theorem dX3_init_45 : decode cX3_init 45 = .ok (.dup, 1) := by decide +kernel
theorem dX3_init_46 : decode cX3_init 46 = .ok (.bipush 60, 2) := by decide +kernel
theorem dX3_init_48 : decode cX3_init 48 = .ok (.invokespecial 20, 3) := by decide +kernel
theorem dX3_init_51 : decode cX3_init 51 = .ok (.putfield 30, 3) := by decide +kernel
theorem dX3_init_54 : decode cX3_init 54 = .ok (.aload_n 0, 1) := by decide +kernel
theorem dX3_init_55 : decode cX3_init 55 = .ok (.new 18, 3) := by decide +kernel
theorem dX3_init_58 : decode cX3_init 58 = .ok (.dup, 1) := by decide +kernel
theorem dX3_init_59 : decode cX3_init 59 = .ok (.bipush 12, 2) := by decide +kernel
theorem dX3_init_61 : decode cX3_init 61 = .ok (.invokespecial 20, 3) := by decide +kernel
theorem dX3_init_64 : decode cX3_init 64 = .ok (.putfield 33, 3) := by decide +kernel
theorem dX3_init_67 : decode cX3_init 67 = .ok (.return_, 1) := by decide +kernel
theorem dX3_clear_0 : decode cX3_clear 0 = .ok (.aload_n 0, 1) := by decide +kernel
theorem dX3_clear_1 : decode cX3_clear 1 = .ok (.getfield 23, 3) := by decide +kernel
theorem dX3_clear_4 : decode cX3_clear 4 = .ok (.invokevirtual 36, 3) := by decide +kernel
theorem dX3_clear_7 : decode cX3_clear 7 = .ok (.aload_n 0, 1) := by decide +kernel
theorem dX3_clear_8 : decode cX3_clear 8 = .ok (.getfield 27, 3) := by decide +kernel
theorem dX3_clear_11 : decode cX3_clear 11 = .ok (.invokevirtual 36, 3) := by decide +kernel
theorem dX3_clear_14 : decode cX3_clear 14 = .ok (.aload_n 0, 1) := by decide +kernel
theorem dX3_clear_15 : decode cX3_clear 15 = .ok (.getfield 30, 3) := by decide +kernel
theorem dX3_clear_18 : decode cX3_clear 18 = .ok (.invokevirtual 36, 3) := by decide +kernel
theorem dX3_clear_21 : decode cX3_clear 21 = .ok (.aload_n 0, 1) := by decide +kernel
theorem dX3_clear_22 : decode cX3_clear 22 = .ok (.getfield 33, 3) := by decide +kernel
theorem dX3_clear_25 : decode cX3_clear 25 = .ok (.invokevirtual 36, 3) := by decide +kernel
theorem dX3_clear_28 : decode cX3_clear 28 = .ok (.return_, 1) := by decide +kernel
theorem dX3_copyFrom_0 : decode cX3_copyFrom 0 = .ok (.aload_n 0, 1) := by decide +kernel
theorem dX3_copyFrom_1 : decode cX3_copyFrom 1 = .ok (.getfield 12, 3) := by decide +kernel
theorem dX3_copyFrom_4 : decode cX3_copyFrom 4 = .ok (.aload_n 1, 1) := by decide +kernel
theorem dX3_copyFrom_5 : decode cX3_copyFrom 5 = .ok (.getfield 12, 3) := by decide +kernel
theorem dX3_copyFrom_8 : decode cX3_copyFrom 8 = .ok (.invokevirtual 39, 3) := by decide +kernel
theorem dX3_copyFrom_11 : decode cX3_copyFrom 11 = .ok (.aload_n 0, 1) := by decide +kernel
theorem dX3_copyFrom_12 : decode cX3_copyFrom 12 = .ok (.getfield 23, 3) := by decide +kernel
theorem dX3_copyFrom_15 : decode cX3_copyFrom 15 = .ok (.aload_n 1, 1) := by decide +kernel
theorem dX3_copyFrom_16 : decode cX3_copyFrom 16 = .ok (.getfield 23, 3) := by decide +kernel
theorem dX3_copyFrom_19 : decode cX3_copyFrom 19 = .ok (.invokevirtual 43, 3) := by decide +kernel
theorem dX3_copyFrom_22 : decode cX3_copyFrom 22 = .ok (.aload_n 0, 1) := by decide +kernel
theorem dX3_copyFrom_23 : decode cX3_copyFrom 23 = .ok (.getfield 27, 3) := by decide +kernel
theorem dX3_copyFrom_26 : decode cX3_copyFrom 26 = .ok (.aload_n 1, 1) := by decide +kernel
theorem dX3_copyFrom_27 : decode cX3_copyFrom 27 = .ok (.getfield 27, 3) := by decide +kernel
theorem dX3_copyFrom_30 : decode cX3_copyFrom 30 = .ok (.invokevirtual 43, 3) := by decide +kernel
theorem dX3_copyFrom_33 : decode cX3_copyFrom 33 = .ok (.aload_n 0, 1) := by decide +kernel
theorem dX3_copyFrom_34 : decode cX3_copyFrom 34 = .ok (.getfield 30, 3) := by decide +kernel
theorem dX3_copyFrom_37 : decode cX3_copyFrom 37 = .ok (.aload_n 1, 1) := by decide +kernel
theorem dX3_copyFrom_38 : decode cX3_copyFrom 38 = .ok (.getfield 30, 3) := by decide +kernel
theorem dX3_copyFrom_41 : decode cX3_copyFrom 41 = .ok (.invokevirtual 43, 3) := by decide +kernel
theorem dX3_copyFrom_44 : decode cX3_copyFrom 44 = .ok (.aload_n 0, 1) := by decide +kernel
theorem dX3_copyFrom_45 : decode cX3_copyFrom 45 = .ok (.getfield 33, 3) := by decide +kernel
theorem dX3_copyFrom_48 : decode cX3_copyFrom 48 = .ok (.aload_n 1, 1) := by decide +kernel
theorem dX3_copyFrom_49 : decode cX3_copyFrom 49 = .ok (.getfield 33, 3) := by decide +kernel
theorem dX3_copyFrom_52 : decode cX3_copyFrom 52 = .ok (.invokevirtual 43, 3) := by decide +kernel
theorem dX3_copyFrom_55 : decode cX3_copyFrom 55 = .ok (.return_, 1) := by decide +kernel
theorem dX3_boxesOf_0 : decode cX3_boxesOf 0 = .ok (.aload_n 0, 1) := by decide +kernel
theorem dX3_boxesOf_1 : decode cX3_boxesOf 1 = .ok (.getfield 23, 3) := by decide +kernel
theorem dX3_boxesOf_4 : decode cX3_boxesOf 4 = .ok (.iload_n 1, 1) := by decide +kernel
theorem dX3_boxesOf_5 : decode cX3_boxesOf 5 = .ok (.invokevirtual 46, 3) := by decide +kernel
theorem dX3_boxesOf_8 : decode cX3_boxesOf 8 = .ok (.ifCond .eq 24, 3) := by decide +kernel
theorem dX3_boxesOf_11 : decode cX3_boxesOf 11 = .ok (.aload_n 0, 1) := by decide +kernel
theorem dX3_boxesOf_12 : decode cX3_boxesOf 12 = .ok (.getfield 12, 3) := by decide +kernel
theorem dX3_boxesOf_15 : decode cX3_boxesOf 15 = .ok (.aload_n 0, 1) := by decide +kernel
theorem dX3_boxesOf_16 : decode cX3_boxesOf 16 = .ok (.getfield 23, 3) := by decide +kernel
theorem dX3_boxesOf_19 : decode cX3_boxesOf 19 = .ok (.getfield 50, 3) := by decide +kernel
theorem dX3_boxesOf_22 : decode cX3_boxesOf 22 = .ok (.iload_n 1, 1) := by decide +kernel
theorem dX3_boxesOf_23 : decode cX3_boxesOf 23 = .ok (.iaload, 1) := by decide +kernel
theorem dX3_boxesOf_24 : decode cX3_boxesOf 24 = .ok (.iconst 1, 1) := by decide +kernel
theorem dX3_boxesOf_25 : decode cX3_boxesOf 25 = .ok (.iadd, 1) := by decide +kernel
theorem dX3_boxesOf_26 : decode cX3_boxesOf 26 = .ok (.invokevirtual 54, 3) := by decide +kernel
theorem dX3_boxesOf_29 : decode cX3_boxesOf 29 = .ok (.goto 4, 3) := by decide +kernel
theorem dX3_boxesOf_32 : decode cX3_boxesOf 32 = .ok (.iconst 0, 1) := by decide +kernel
theorem dX3_boxesOf_33 : decode cX3_boxesOf 33 = .ok (.ireturn, 1) := by decide +kernel
theorem dX3_boxByte_0 : decode cX3_boxByte 0 = .ok (.aload_n 0, 1) := by decide +kernel
theorem dX3_boxByte_1 : decode cX3_boxByte 1 = .ok (.getfield 23, 3) := by decide +kernel
theorem dX3_boxByte_4 : decode cX3_boxByte 4 = .ok (.iload_n 1, 1) := by decide +kernel
theorem dX3_boxByte_5 : decode cX3_boxByte 5 = .ok (.invokevirtual 46, 3) := by decide +kernel
theorem dX3_boxByte_8 : decode cX3_boxByte 8 = .ok (.ifCond .ne 5, 3) := by decide +kernel
theorem dX3_boxByte_11 : decode cX3_boxByte 11 = .ok (.iconst (-1), 1) := by decide +kernel
theorem dX3_boxByte_12 : decode cX3_boxByte 12 = .ok (.ireturn, 1) := by decide +kernel
theorem dX3_boxByte_13 : decode cX3_boxByte 13 = .ok (.aload_n 0, 1) := by decide +kernel
theorem dX3_boxByte_14 : decode cX3_boxByte 14 = .ok (.getfield 12, 3) := by decide +kernel
theorem dX3_boxByte_17 : decode cX3_boxByte 17 = .ok (.aload_n 0, 1) := by decide +kernel
theorem dX3_boxByte_18 : decode cX3_boxByte 18 = .ok (.getfield 23, 3) := by decide +kernel
theorem dX3_boxByte_21 : decode cX3_boxByte 21 = .ok (.getfield 50, 3) := by decide +kernel
theorem dX3_boxByte_24 : decode cX3_boxByte 24 = .ok (.iload_n 1, 1) := by decide +kernel
theorem dX3_boxByte_25 : decode cX3_boxByte 25 = .ok (.iaload, 1) := by decide +kernel
theorem dX3_boxByte_26 : decode cX3_boxByte 26 = .ok (.iconst 2, 1) := by decide +kernel
theorem dX3_boxByte_27 : decode cX3_boxByte 27 = .ok (.iadd, 1) := by decide +kernel
theorem dX3_boxByte_28 : decode cX3_boxByte 28 = .ok (.iconst 5, 1) := by decide +kernel
theorem dX3_boxByte_29 : decode cX3_boxByte 29 = .ok (.iload_n 2, 1) := by decide +kernel
theorem dX3_boxByte_30 : decode cX3_boxByte 30 = .ok (.imul, 1) := by decide +kernel
theorem dX3_boxByte_31 : decode cX3_boxByte 31 = .ok (.iadd, 1) := by decide +kernel
theorem dX3_boxByte_32 : decode cX3_boxByte 32 = .ok (.iload_n 3, 1) := by decide +kernel
theorem dX3_boxByte_33 : decode cX3_boxByte 33 = .ok (.iadd, 1) := by decide +kernel
theorem dX3_boxByte_34 : decode cX3_boxByte 34 = .ok (.invokevirtual 54, 3) := by decide +kernel
theorem dX3_boxByte_37 : decode cX3_boxByte 37 = .ok (.ireturn, 1) := by decide +kernel
theorem dX3_actorByte_0 : decode cX3_actorByte 0 = .ok (.aload_n 0, 1) := by decide +kernel
theorem dX3_actorByte_1 : decode cX3_actorByte 1 = .ok (.getfield 33, 3) := by decide +kernel
theorem dX3_actorByte_4 : decode cX3_actorByte 4 = .ok (.iload_n 1, 1) := by decide +kernel
theorem dX3_actorByte_5 : decode cX3_actorByte 5 = .ok (.invokevirtual 46, 3) := by decide +kernel
theorem dX3_actorByte_8 : decode cX3_actorByte 8 = .ok (.ifCond .eq 26, 3) := by decide +kernel
theorem dX3_actorByte_11 : decode cX3_actorByte 11 = .ok (.aload_n 0, 1) := by decide +kernel
theorem dX3_actorByte_12 : decode cX3_actorByte 12 = .ok (.getfield 12, 3) := by decide +kernel
theorem dX3_actorByte_15 : decode cX3_actorByte 15 = .ok (.aload_n 0, 1) := by decide +kernel
theorem dX3_actorByte_16 : decode cX3_actorByte 16 = .ok (.getfield 33, 3) := by decide +kernel
theorem dX3_actorByte_19 : decode cX3_actorByte 19 = .ok (.getfield 50, 3) := by decide +kernel
theorem dX3_actorByte_22 : decode cX3_actorByte 22 = .ok (.iload_n 1, 1) := by decide +kernel
theorem dX3_actorByte_23 : decode cX3_actorByte 23 = .ok (.iaload, 1) := by decide +kernel
theorem dX3_actorByte_24 : decode cX3_actorByte 24 = .ok (.iconst 1, 1) := by decide +kernel
theorem dX3_actorByte_25 : decode cX3_actorByte 25 = .ok (.iadd, 1) := by decide +kernel
theorem dX3_actorByte_26 : decode cX3_actorByte 26 = .ok (.iload_n 2, 1) := by decide +kernel
theorem dX3_actorByte_27 : decode cX3_actorByte 27 = .ok (.iadd, 1) := by decide +kernel
theorem dX3_actorByte_28 : decode cX3_actorByte 28 = .ok (.invokevirtual 54, 3) := by decide +kernel
theorem dX3_actorByte_31 : decode cX3_actorByte 31 = .ok (.goto 4, 3) := by decide +kernel
theorem dX3_actorByte_34 : decode cX3_actorByte 34 = .ok (.iconst 0, 1) := by decide +kernel
theorem dX3_actorByte_35 : decode cX3_actorByte 35 = .ok (.ireturn, 1) := by decide +kernel
theorem dX3_whereIs_0 : decode cX3_whereIs 0 = .ok (.aload_n 0, 1) := by decide +kernel
theorem dX3_whereIs_1 : decode cX3_whereIs 1 = .ok (.getfield 30, 3) := by decide +kernel
theorem dX3_whereIs_4 : decode cX3_whereIs 4 = .ok (.iload_n 1, 1) := by decide +kernel
theorem dX3_whereIs_5 : decode cX3_whereIs 5 = .ok (.invokevirtual 46, 3) := by decide +kernel
theorem dX3_whereIs_8 : decode cX3_whereIs 8 = .ok (.ifCond .eq 26, 3) := by decide +kernel
theorem dX3_whereIs_11 : decode cX3_whereIs 11 = .ok (.aload_n 0, 1) := by decide +kernel
theorem dX3_whereIs_12 : decode cX3_whereIs 12 = .ok (.getfield 12, 3) := by decide +kernel
theorem dX3_whereIs_15 : decode cX3_whereIs 15 = .ok (.aload_n 0, 1) := by decide +kernel
theorem dX3_whereIs_16 : decode cX3_whereIs 16 = .ok (.getfield 30, 3) := by decide +kernel
theorem dX3_whereIs_19 : decode cX3_whereIs 19 = .ok (.getfield 50, 3) := by decide +kernel
theorem dX3_whereIs_22 : decode cX3_whereIs 22 = .ok (.iload_n 1, 1) := by decide +kernel
theorem dX3_whereIs_23 : decode cX3_whereIs 23 = .ok (.iaload, 1) := by decide +kernel
theorem dX3_whereIs_24 : decode cX3_whereIs 24 = .ok (.iconst 1, 1) := by decide +kernel
theorem dX3_whereIs_25 : decode cX3_whereIs 25 = .ok (.iadd, 1) := by decide +kernel
theorem dX3_whereIs_26 : decode cX3_whereIs 26 = .ok (.iload_n 2, 1) := by decide +kernel
theorem dX3_whereIs_27 : decode cX3_whereIs 27 = .ok (.iadd, 1) := by decide +kernel
theorem dX3_whereIs_28 : decode cX3_whereIs 28 = .ok (.invokevirtual 54, 3) := by decide +kernel
theorem dX3_whereIs_31 : decode cX3_whereIs 31 = .ok (.goto 4, 3) := by decide +kernel
theorem dX3_whereIs_34 : decode cX3_whereIs 34 = .ok (.iconst 0, 1) := by decide +kernel
theorem dX3_whereIs_35 : decode cX3_whereIs 35 = .ok (.ireturn, 1) := by decide +kernel
theorem dX3_verbsOf_0 : decode cX3_verbsOf 0 = .ok (.aload_n 0, 1) := by decide +kernel
theorem dX3_verbsOf_1 : decode cX3_verbsOf 1 = .ok (.getfield 30, 3) := by decide +kernel
theorem dX3_verbsOf_4 : decode cX3_verbsOf 4 = .ok (.iload_n 1, 1) := by decide +kernel
theorem dX3_verbsOf_5 : decode cX3_verbsOf 5 = .ok (.invokevirtual 46, 3) := by decide +kernel
theorem dX3_verbsOf_8 : decode cX3_verbsOf 8 = .ok (.ifCond .ne 5, 3) := by decide +kernel
theorem dX3_verbsOf_11 : decode cX3_verbsOf 11 = .ok (.iconst 0, 1) := by decide +kernel
theorem dX3_verbsOf_12 : decode cX3_verbsOf 12 = .ok (.ireturn, 1) := by decide +kernel
theorem dX3_verbsOf_13 : decode cX3_verbsOf 13 = .ok (.aload_n 0, 1) := by decide +kernel
theorem dX3_verbsOf_14 : decode cX3_verbsOf 14 = .ok (.getfield 30, 3) := by decide +kernel
theorem dX3_verbsOf_17 : decode cX3_verbsOf 17 = .ok (.getfield 58, 3) := by decide +kernel
theorem dX3_verbsOf_20 : decode cX3_verbsOf 20 = .ok (.iload_n 1, 1) := by decide +kernel
theorem dX3_verbsOf_21 : decode cX3_verbsOf 21 = .ok (.iaload, 1) := by decide +kernel
theorem dX3_verbsOf_22 : decode cX3_verbsOf 22 = .ok (.aload_n 0, 1) := by decide +kernel
theorem dX3_verbsOf_23 : decode cX3_verbsOf 23 = .ok (.getfield 30, 3) := by decide +kernel
theorem dX3_verbsOf_26 : decode cX3_verbsOf 26 = .ok (.getfield 50, 3) := by decide +kernel
theorem dX3_verbsOf_29 : decode cX3_verbsOf 29 = .ok (.iload_n 1, 1) := by decide +kernel
theorem dX3_verbsOf_30 : decode cX3_verbsOf 30 = .ok (.iaload, 1) := by decide +kernel
theorem dX3_verbsOf_31 : decode cX3_verbsOf 31 = .ok (.isub, 1) := by decide +kernel
theorem dX3_verbsOf_32 : decode cX3_verbsOf 32 = .ok (.iconst 5, 1) := by decide +kernel
theorem dX3_verbsOf_33 : decode cX3_verbsOf 33 = .ok (.isub, 1) := by decide +kernel
theorem dX3_verbsOf_34 : decode cX3_verbsOf 34 = .ok (.iconst 2, 1) := by decide +kernel
theorem dX3_verbsOf_35 : decode cX3_verbsOf 35 = .ok (.idiv, 1) := by decide +kernel
theorem dX3_verbsOf_36 : decode cX3_verbsOf 36 = .ok (.ireturn, 1) := by decide +kernel
theorem dX3_scriptFor_0 : decode cX3_scriptFor 0 = .ok (.aload_n 0, 1) := by decide +kernel
theorem dX3_scriptFor_1 : decode cX3_scriptFor 1 = .ok (.getfield 30, 3) := by decide +kernel
theorem dX3_scriptFor_4 : decode cX3_scriptFor 4 = .ok (.iload_n 1, 1) := by decide +kernel
theorem dX3_scriptFor_5 : decode cX3_scriptFor 5 = .ok (.invokevirtual 46, 3) := by decide +kernel
theorem dX3_scriptFor_8 : decode cX3_scriptFor 8 = .ok (.ifCond .ne 5, 3) := by decide +kernel
theorem dX3_scriptFor_11 : decode cX3_scriptFor 11 = .ok (.iconst 0, 1) := by decide +kernel
theorem dX3_scriptFor_12 : decode cX3_scriptFor 12 = .ok (.ireturn, 1) := by decide +kernel
theorem dX3_scriptFor_13 : decode cX3_scriptFor 13 = .ok (.aload_n 0, 1) := by decide +kernel
theorem dX3_scriptFor_14 : decode cX3_scriptFor 14 = .ok (.getfield 30, 3) := by decide +kernel
theorem dX3_scriptFor_17 : decode cX3_scriptFor 17 = .ok (.getfield 58, 3) := by decide +kernel
theorem dX3_scriptFor_20 : decode cX3_scriptFor 20 = .ok (.iload_n 1, 1) := by decide +kernel
theorem dX3_scriptFor_21 : decode cX3_scriptFor 21 = .ok (.iaload, 1) := by decide +kernel
theorem dX3_scriptFor_22 : decode cX3_scriptFor 22 = .ok (.istore_n 3, 1) := by decide +kernel
theorem dX3_scriptFor_23 : decode cX3_scriptFor 23 = .ok (.aload_n 0, 1) := by decide +kernel
theorem dX3_scriptFor_24 : decode cX3_scriptFor 24 = .ok (.getfield 30, 3) := by decide +kernel
theorem dX3_scriptFor_27 : decode cX3_scriptFor 27 = .ok (.getfield 50, 3) := by decide +kernel
theorem dX3_scriptFor_30 : decode cX3_scriptFor 30 = .ok (.iload_n 1, 1) := by decide +kernel
theorem dX3_scriptFor_31 : decode cX3_scriptFor 31 = .ok (.iaload, 1) := by decide +kernel
theorem dX3_scriptFor_32 : decode cX3_scriptFor 32 = .ok (.iconst 5, 1) := by decide +kernel
theorem dX3_scriptFor_33 : decode cX3_scriptFor 33 = .ok (.iadd, 1) := by decide +kernel
theorem dX3_scriptFor_34 : decode cX3_scriptFor 34 = .ok (.istore 4, 2) := by decide +kernel
theorem dX3_scriptFor_36 : decode cX3_scriptFor 36 = .ok (.iload 4, 2) := by decide +kernel
theorem dX3_scriptFor_38 : decode cX3_scriptFor 38 = .ok (.iload_n 3, 1) := by decide +kernel
theorem dX3_scriptFor_39 : decode cX3_scriptFor 39 = .ok (.if_icmp .ge 34, 3) := by decide +kernel
theorem dX3_scriptFor_42 : decode cX3_scriptFor 42 = .ok (.aload_n 0, 1) := by decide +kernel
theorem dX3_scriptFor_43 : decode cX3_scriptFor 43 = .ok (.getfield 12, 3) := by decide +kernel
theorem dX3_scriptFor_46 : decode cX3_scriptFor 46 = .ok (.iload 4, 2) := by decide +kernel
theorem dX3_scriptFor_48 : decode cX3_scriptFor 48 = .ok (.invokevirtual 54, 3) := by decide +kernel
theorem dX3_scriptFor_51 : decode cX3_scriptFor 51 = .ok (.iload_n 2, 1) := by decide +kernel
theorem dX3_scriptFor_52 : decode cX3_scriptFor 52 = .ok (.if_icmp .ne 15, 3) := by decide +kernel
theorem dX3_scriptFor_55 : decode cX3_scriptFor 55 = .ok (.aload_n 0, 1) := by decide +kernel
theorem dX3_scriptFor_56 : decode cX3_scriptFor 56 = .ok (.getfield 12, 3) := by decide +kernel
theorem dX3_scriptFor_59 : decode cX3_scriptFor 59 = .ok (.iload 4, 2) := by decide +kernel
theorem dX3_scriptFor_61 : decode cX3_scriptFor 61 = .ok (.iconst 1, 1) := by decide +kernel
theorem dX3_scriptFor_62 : decode cX3_scriptFor 62 = .ok (.iadd, 1) := by decide +kernel
theorem dX3_scriptFor_63 : decode cX3_scriptFor 63 = .ok (.invokevirtual 54, 3) := by decide +kernel
theorem dX3_scriptFor_66 : decode cX3_scriptFor 66 = .ok (.ireturn, 1) := by decide +kernel
theorem dX3_scriptFor_67 : decode cX3_scriptFor 67 = .ok (.iinc 4 2, 3) := by decide +kernel
theorem dX3_scriptFor_70 : decode cX3_scriptFor 70 = .ok (.goto (-34), 3) := by decide +kernel
theorem dX3_scriptFor_73 : decode cX3_scriptFor 73 = .ok (.iconst 0, 1) := by decide +kernel
theorem dX3_scriptFor_74 : decode cX3_scriptFor 74 = .ok (.ireturn, 1) := by decide +kernel
theorem dX6_init_0 : decode cX6_init 0 = .ok (.aload_n 0, 1) := by decide +kernel
theorem dX6_init_1 : decode cX6_init 1 = .ok (.invokespecial 3, 3) := by decide +kernel
theorem dX6_init_4 : decode cX6_init 4 = .ok (.aload_n 0, 1) := by decide +kernel
theorem dX6_init_5 : decode cX6_init 5 = .ok (.iconst 4, 1) := by decide +kernel
theorem dX6_init_6 : decode cX6_init 6 = .ok (.newarray .int, 2) := by decide +kernel
theorem dX6_init_8 : decode cX6_init 8 = .ok (.putfield 9, 3) := by decide +kernel
theorem dX6_init_11 : decode cX6_init 11 = .ok (.return_, 1) := by decide +kernel
theorem dX6_runs_0 : decode cX6_runs 0 = .ok (.aload_n 0, 1) := by decide +kernel
theorem dX6_runs_1 : decode cX6_runs 1 = .ok (.getfield 15, 3) := by decide +kernel
theorem dX6_runs_4 : decode cX6_runs 4 = .ok (.ifCond .eq 7, 3) := by decide +kernel
theorem dX6_runs_7 : decode cX6_runs 7 = .ok (.iconst 1, 1) := by decide +kernel
theorem dX6_runs_8 : decode cX6_runs 8 = .ok (.goto 4, 3) := by decide +kernel
theorem dX6_runs_11 : decode cX6_runs 11 = .ok (.iconst 0, 1) := by decide +kernel
theorem dX6_runs_12 : decode cX6_runs 12 = .ok (.ireturn, 1) := by decide +kernel
theorem dX6_begin_0 : decode cX6_begin 0 = .ok (.aload_n 0, 1) := by decide +kernel
theorem dX6_begin_1 : decode cX6_begin 1 = .ok (.iload_n 1, 1) := by decide +kernel
theorem dX6_begin_2 : decode cX6_begin 2 = .ok (.putfield 15, 3) := by decide +kernel
theorem dX6_begin_5 : decode cX6_begin 5 = .ok (.aload_n 0, 1) := by decide +kernel
theorem dX6_begin_6 : decode cX6_begin 6 = .ok (.iload_n 2, 1) := by decide +kernel
theorem dX6_begin_7 : decode cX6_begin 7 = .ok (.putfield 19, 3) := by decide +kernel
theorem dX6_begin_10 : decode cX6_begin 10 = .ok (.return_, 1) := by decide +kernel
theorem dX6_release_0 : decode cX6_release 0 = .ok (.aload_n 0, 1) := by decide +kernel
theorem dX6_release_1 : decode cX6_release 1 = .ok (.iconst 0, 1) := by decide +kernel
theorem dX6_release_2 : decode cX6_release 2 = .ok (.putfield 15, 3) := by decide +kernel
theorem dX6_release_5 : decode cX6_release 5 = .ok (.aload_n 0, 1) := by decide +kernel
theorem dX6_release_6 : decode cX6_release 6 = .ok (.iconst 0, 1) := by decide +kernel
theorem dX6_release_7 : decode cX6_release 7 = .ok (.putfield 23, 3) := by decide +kernel
theorem dX6_release_10 : decode cX6_release 10 = .ok (.aload_n 0, 1) := by decide +kernel
theorem dX6_release_11 : decode cX6_release 11 = .ok (.iconst 0, 1) := by decide +kernel
theorem dX6_release_12 : decode cX6_release 12 = .ok (.putfield 26, 3) := by decide +kernel
theorem dX6_release_15 : decode cX6_release 15 = .ok (.aload_n 0, 1) := by decide +kernel
theorem dX6_release_16 : decode cX6_release 16 = .ok (.iconst 0, 1) := by decide +kernel
theorem dX6_release_17 : decode cX6_release 17 = .ok (.putfield 29, 3) := by decide +kernel
theorem dX6_release_20 : decode cX6_release 20 = .ok (.aload_n 0, 1) := by decide +kernel
theorem dX6_release_21 : decode cX6_release 21 = .ok (.iconst 0, 1) := by decide +kernel
theorem dX6_release_22 : decode cX6_release 22 = .ok (.putfield 32, 3) := by decide +kernel
theorem dX6_release_25 : decode cX6_release 25 = .ok (.aload_n 0, 1) := by decide +kernel
theorem dX6_release_26 : decode cX6_release 26 = .ok (.iconst 0, 1) := by decide +kernel
theorem dX6_release_27 : decode cX6_release 27 = .ok (.putfield 19, 3) := by decide +kernel
theorem dX6_release_30 : decode cX6_release 30 = .ok (.aload_n 0, 1) := by decide +kernel
theorem dX6_release_31 : decode cX6_release 31 = .ok (.getfield 9, 3) := by decide +kernel
theorem dX6_release_34 : decode cX6_release 34 = .ok (.iconst 0, 1) := by decide +kernel
theorem dX6_release_35 : decode cX6_release 35 = .ok (.invokestatic 35, 3) := by decide +kernel
theorem dX6_release_38 : decode cX6_release 38 = .ok (.return_, 1) := by decide +kernel
theorem dX6_copyFrom_0 : decode cX6_copyFrom 0 = .ok (.aload_n 0, 1) := by decide +kernel
theorem dX6_copyFrom_1 : decode cX6_copyFrom 1 = .ok (.aload_n 1, 1) := by decide +kernel
theorem dX6_copyFrom_2 : decode cX6_copyFrom 2 = .ok (.getfield 15, 3) := by decide +kernel
theorem dX6_copyFrom_5 : decode cX6_copyFrom 5 = .ok (.putfield 15, 3) := by decide +kernel
theorem dX6_copyFrom_8 : decode cX6_copyFrom 8 = .ok (.aload_n 0, 1) := by decide +kernel
theorem dX6_copyFrom_9 : decode cX6_copyFrom 9 = .ok (.aload_n 1, 1) := by decide +kernel
theorem dX6_copyFrom_10 : decode cX6_copyFrom 10 = .ok (.getfield 23, 3) := by decide +kernel
theorem dX6_copyFrom_13 : decode cX6_copyFrom 13 = .ok (.putfield 23, 3) := by decide +kernel
theorem dX6_copyFrom_16 : decode cX6_copyFrom 16 = .ok (.aload_n 0, 1) := by decide +kernel
theorem dX6_copyFrom_17 : decode cX6_copyFrom 17 = .ok (.aload_n 1, 1) := by decide +kernel
theorem dX6_copyFrom_18 : decode cX6_copyFrom 18 = .ok (.getfield 26, 3) := by decide +kernel
theorem dX6_copyFrom_21 : decode cX6_copyFrom 21 = .ok (.putfield 26, 3) := by decide +kernel
theorem dX6_copyFrom_24 : decode cX6_copyFrom 24 = .ok (.aload_n 0, 1) := by decide +kernel
theorem dX6_copyFrom_25 : decode cX6_copyFrom 25 = .ok (.aload_n 1, 1) := by decide +kernel
theorem dX6_copyFrom_26 : decode cX6_copyFrom 26 = .ok (.getfield 29, 3) := by decide +kernel
theorem dX6_copyFrom_29 : decode cX6_copyFrom 29 = .ok (.putfield 29, 3) := by decide +kernel
theorem dX6_copyFrom_32 : decode cX6_copyFrom 32 = .ok (.aload_n 0, 1) := by decide +kernel
theorem dX6_copyFrom_33 : decode cX6_copyFrom 33 = .ok (.aload_n 1, 1) := by decide +kernel
theorem dX6_copyFrom_34 : decode cX6_copyFrom 34 = .ok (.getfield 32, 3) := by decide +kernel
theorem dX6_copyFrom_37 : decode cX6_copyFrom 37 = .ok (.putfield 32, 3) := by decide +kernel
theorem dX6_copyFrom_40 : decode cX6_copyFrom 40 = .ok (.aload_n 0, 1) := by decide +kernel
theorem dX6_copyFrom_41 : decode cX6_copyFrom 41 = .ok (.aload_n 1, 1) := by decide +kernel
theorem dX6_copyFrom_42 : decode cX6_copyFrom 42 = .ok (.getfield 19, 3) := by decide +kernel
theorem dX6_copyFrom_45 : decode cX6_copyFrom 45 = .ok (.putfield 19, 3) := by decide +kernel
theorem dX6_copyFrom_48 : decode cX6_copyFrom 48 = .ok (.aload_n 1, 1) := by decide +kernel
theorem dX6_copyFrom_49 : decode cX6_copyFrom 49 = .ok (.getfield 9, 3) := by decide +kernel
theorem dX6_copyFrom_52 : decode cX6_copyFrom 52 = .ok (.iconst 0, 1) := by decide +kernel
theorem dX6_copyFrom_53 : decode cX6_copyFrom 53 = .ok (.aload_n 0, 1) := by decide +kernel
theorem dX6_copyFrom_54 : decode cX6_copyFrom 54 = .ok (.getfield 9, 3) := by decide +kernel
theorem dX6_copyFrom_57 : decode cX6_copyFrom 57 = .ok (.iconst 0, 1) := by decide +kernel
theorem dX6_copyFrom_58 : decode cX6_copyFrom 58 = .ok (.iconst 4, 1) := by decide +kernel
theorem dX6_copyFrom_59 : decode cX6_copyFrom 59 = .ok (.invokestatic 41, 3) := by decide +kernel
theorem dX6_copyFrom_62 : decode cX6_copyFrom 62 = .ok (.return_, 1) := by decide +kernel
theorem dX6_number_0 : decode cX6_number 0 = .ok (.iload_n 1, 1) := by decide +kernel
theorem dX6_number_1 : decode cX6_number 1 = .ok (.tableswitch 85 0 5 #[39, 44, 49, 54, 59, 72], 39) := by decide +kernel
theorem dX6_number_40 : decode cX6_number 40 = .ok (.aload_n 0, 1) := by decide +kernel
theorem dX6_number_41 : decode cX6_number 41 = .ok (.getfield 15, 3) := by decide +kernel
theorem dX6_number_44 : decode cX6_number 44 = .ok (.ireturn, 1) := by decide +kernel
theorem dX6_number_45 : decode cX6_number 45 = .ok (.aload_n 0, 1) := by decide +kernel
theorem dX6_number_46 : decode cX6_number 46 = .ok (.getfield 23, 3) := by decide +kernel
theorem dX6_number_49 : decode cX6_number 49 = .ok (.ireturn, 1) := by decide +kernel
theorem dX6_number_50 : decode cX6_number 50 = .ok (.aload_n 0, 1) := by decide +kernel
theorem dX6_number_51 : decode cX6_number 51 = .ok (.getfield 26, 3) := by decide +kernel
theorem dX6_number_54 : decode cX6_number 54 = .ok (.ireturn, 1) := by decide +kernel
theorem dX6_number_55 : decode cX6_number 55 = .ok (.aload_n 0, 1) := by decide +kernel
theorem dX6_number_56 : decode cX6_number 56 = .ok (.getfield 29, 3) := by decide +kernel
theorem dX6_number_59 : decode cX6_number 59 = .ok (.ireturn, 1) := by decide +kernel
theorem dX6_number_60 : decode cX6_number 60 = .ok (.aload_n 0, 1) := by decide +kernel
theorem dX6_number_61 : decode cX6_number 61 = .ok (.getfield 32, 3) := by decide +kernel
theorem dX6_number_64 : decode cX6_number 64 = .ok (.ifCond .eq 7, 3) := by decide +kernel
theorem dX6_number_67 : decode cX6_number 67 = .ok (.iconst 1, 1) := by decide +kernel
theorem dX6_number_68 : decode cX6_number 68 = .ok (.goto 4, 3) := by decide +kernel
theorem dX6_number_71 : decode cX6_number 71 = .ok (.iconst 0, 1) := by decide +kernel
theorem dX6_number_72 : decode cX6_number 72 = .ok (.ireturn, 1) := by decide +kernel
theorem dX6_number_73 : decode cX6_number 73 = .ok (.aload_n 0, 1) := by decide +kernel
theorem dX6_number_74 : decode cX6_number 74 = .ok (.getfield 19, 3) := by decide +kernel
theorem dX6_number_77 : decode cX6_number 77 = .ok (.ifCond .eq 7, 3) := by decide +kernel
theorem dX6_number_80 : decode cX6_number 80 = .ok (.iconst 1, 1) := by decide +kernel
theorem dX6_number_81 : decode cX6_number 81 = .ok (.goto 4, 3) := by decide +kernel
theorem dX6_number_84 : decode cX6_number 84 = .ok (.iconst 0, 1) := by decide +kernel
theorem dX6_number_85 : decode cX6_number 85 = .ok (.ireturn, 1) := by decide +kernel
theorem dX6_number_86 : decode cX6_number 86 = .ok (.iload_n 1, 1) := by decide +kernel
theorem dX6_number_87 : decode cX6_number 87 = .ok (.bipush 6, 2) := by decide +kernel
theorem dX6_number_89 : decode cX6_number 89 = .ok (.if_icmp .lt 21, 3) := by decide +kernel
theorem dX6_number_92 : decode cX6_number 92 = .ok (.iload_n 1, 1) := by decide +kernel
theorem dX6_number_93 : decode cX6_number 93 = .ok (.bipush 10, 2) := by decide +kernel
theorem dX6_number_95 : decode cX6_number 95 = .ok (.if_icmp .ge 15, 3) := by decide +kernel
theorem dX6_number_98 : decode cX6_number 98 = .ok (.aload_n 0, 1) := by decide +kernel
theorem dX6_number_99 : decode cX6_number 99 = .ok (.getfield 9, 3) := by decide +kernel
theorem dX6_number_102 : decode cX6_number 102 = .ok (.iload_n 1, 1) := by decide +kernel
theorem dX6_number_103 : decode cX6_number 103 = .ok (.bipush 6, 2) := by decide +kernel
theorem dX6_number_105 : decode cX6_number 105 = .ok (.isub, 1) := by decide +kernel
theorem dX6_number_106 : decode cX6_number 106 = .ok (.iaload, 1) := by decide +kernel
theorem dX6_number_107 : decode cX6_number 107 = .ok (.goto 4, 3) := by decide +kernel
theorem dX6_number_110 : decode cX6_number 110 = .ok (.iconst (-1), 1) := by decide +kernel
theorem dX6_number_111 : decode cX6_number 111 = .ok (.ireturn, 1) := by decide +kernel
theorem dX8_init_0 : decode cX8_init 0 = .ok (.aload_n 0, 1) := by decide +kernel
theorem dX8_init_1 : decode cX8_init 1 = .ok (.invokespecial 3, 3) := by decide +kernel
theorem dX8_init_4 : decode cX8_init 4 = .ok (.aload_n 0, 1) := by decide +kernel
theorem dX8_init_5 : decode cX8_init 5 = .ok (.sipush 1500, 3) := by decide +kernel
theorem dX8_init_8 : decode cX8_init 8 = .ok (.newarray .int, 2) := by decide +kernel
theorem dX8_init_10 : decode cX8_init 10 = .ok (.putfield 9, 3) := by decide +kernel
theorem dX8_init_13 : decode cX8_init 13 = .ok (.return_, 1) := by decide +kernel
theorem dX8_at_0 : decode cX8_at 0 = .ok (.iload_n 1, 1) := by decide +kernel
theorem dX8_at_1 : decode cX8_at 1 = .ok (.ifCond .lt 11, 3) := by decide +kernel
theorem dX8_at_4 : decode cX8_at 4 = .ok (.iload_n 1, 1) := by decide +kernel
theorem dX8_at_5 : decode cX8_at 5 = .ok (.aload_n 0, 1) := by decide +kernel
theorem dX8_at_6 : decode cX8_at 6 = .ok (.getfield 15, 3) := by decide +kernel
theorem dX8_at_9 : decode cX8_at 9 = .ok (.if_icmp .lt 5, 3) := by decide +kernel
theorem dX8_at_12 : decode cX8_at 12 = .ok (.iconst (-1), 1) := by decide +kernel
theorem dX8_at_13 : decode cX8_at 13 = .ok (.ireturn, 1) := by decide +kernel
theorem dX8_at_14 : decode cX8_at 14 = .ok (.aload_n 0, 1) := by decide +kernel
theorem dX8_at_15 : decode cX8_at 15 = .ok (.getfield 9, 3) := by decide +kernel
theorem dX8_at_18 : decode cX8_at 18 = .ok (.iload_n 1, 1) := by decide +kernel
theorem dX8_at_19 : decode cX8_at 19 = .ok (.iconst 2, 1) := by decide +kernel
theorem dX8_at_20 : decode cX8_at 20 = .ok (.ishr, 1) := by decide +kernel
theorem dX8_at_21 : decode cX8_at 21 = .ok (.iaload, 1) := by decide +kernel
theorem dX8_at_22 : decode cX8_at 22 = .ok (.bipush 24, 2) := by decide +kernel
theorem dX8_at_24 : decode cX8_at 24 = .ok (.bipush 8, 2) := by decide +kernel
theorem dX8_at_26 : decode cX8_at 26 = .ok (.iload_n 1, 1) := by decide +kernel
theorem dX8_at_27 : decode cX8_at 27 = .ok (.iconst 3, 1) := by decide +kernel
theorem dX8_at_28 : decode cX8_at 28 = .ok (.iand, 1) := by decide +kernel
theorem dX8_at_29 : decode cX8_at 29 = .ok (.imul, 1) := by decide +kernel
theorem dX8_at_30 : decode cX8_at 30 = .ok (.isub, 1) := by decide +kernel
theorem dX8_at_31 : decode cX8_at 31 = .ok (.iushr, 1) := by decide +kernel
theorem dX8_at_32 : decode cX8_at 32 = .ok (.sipush 255, 3) := by decide +kernel
theorem dX8_at_35 : decode cX8_at 35 = .ok (.iand, 1) := by decide +kernel
theorem dX8_at_36 : decode cX8_at 36 = .ok (.ireturn, 1) := by decide +kernel
theorem dX8_addNumber_0 : decode cX8_addNumber 0 = .ok (.bipush 24, 2) := by decide +kernel
theorem dX8_addNumber_2 : decode cX8_addNumber 2 = .ok (.istore_n 2, 1) := by decide +kernel
theorem dX8_addNumber_3 : decode cX8_addNumber 3 = .ok (.iload_n 2, 1) := by decide +kernel
theorem dX8_addNumber_4 : decode cX8_addNumber 4 = .ok (.ifCond .lt 20, 3) := by decide +kernel
theorem dX8_addNumber_7 : decode cX8_addNumber 7 = .ok (.aload_n 0, 1) := by decide +kernel
theorem dX8_addNumber_8 : decode cX8_addNumber 8 = .ok (.iload_n 1, 1) := by decide +kernel
theorem dX8_addNumber_9 : decode cX8_addNumber 9 = .ok (.iload_n 2, 1) := by decide +kernel
theorem dX8_addNumber_10 : decode cX8_addNumber 10 = .ok (.iushr, 1) := by decide +kernel
theorem dX8_addNumber_11 : decode cX8_addNumber 11 = .ok (.sipush 255, 3) := by decide +kernel
theorem dX8_addNumber_14 : decode cX8_addNumber 14 = .ok (.iand, 1) := by decide +kernel
theorem dX8_addNumber_15 : decode cX8_addNumber 15 = .ok (.invokevirtual 19, 3) := by decide +kernel
theorem dX8_addNumber_18 : decode cX8_addNumber 18 = .ok (.iinc 2 (-8), 3) := by decide +kernel
theorem dX8_addNumber_21 : decode cX8_addNumber 21 = .ok (.goto (-18), 3) := by decide +kernel
theorem dX8_addNumber_24 : decode cX8_addNumber 24 = .ok (.return_, 1) := by decide +kernel
theorem dX8_cut_0 : decode cX8_cut 0 = .ok (.iload_n 1, 1) := by decide +kernel
theorem dX8_cut_1 : decode cX8_cut 1 = .ok (.ifCond .lt 11, 3) := by decide +kernel
theorem dX8_cut_4 : decode cX8_cut 4 = .ok (.iload_n 1, 1) := by decide +kernel
theorem dX8_cut_5 : decode cX8_cut 5 = .ok (.aload_n 0, 1) := by decide +kernel
theorem dX8_cut_6 : decode cX8_cut 6 = .ok (.getfield 15, 3) := by decide +kernel
theorem dX8_cut_9 : decode cX8_cut 9 = .ok (.if_icmp .le 5, 3) := by decide +kernel
theorem dX8_cut_12 : decode cX8_cut 12 = .ok (.iconst 0, 1) := by decide +kernel
theorem dX8_cut_13 : decode cX8_cut 13 = .ok (.ireturn, 1) := by decide +kernel
theorem dX8_cut_14 : decode cX8_cut 14 = .ok (.aload_n 0, 1) := by decide +kernel
theorem dX8_cut_15 : decode cX8_cut 15 = .ok (.iload_n 1, 1) := by decide +kernel
theorem dX8_cut_16 : decode cX8_cut 16 = .ok (.putfield 15, 3) := by decide +kernel
theorem dX8_cut_19 : decode cX8_cut 19 = .ok (.iconst 1, 1) := by decide +kernel
theorem dX8_cut_20 : decode cX8_cut 20 = .ok (.ireturn, 1) := by decide +kernel
theorem dX8_copyFrom_0 : decode cX8_copyFrom 0 = .ok (.aload_n 1, 1) := by decide +kernel
theorem dX8_copyFrom_1 : decode cX8_copyFrom 1 = .ok (.getfield 9, 3) := by decide +kernel
theorem dX8_copyFrom_4 : decode cX8_copyFrom 4 = .ok (.iconst 0, 1) := by decide +kernel
theorem dX8_copyFrom_5 : decode cX8_copyFrom 5 = .ok (.aload_n 0, 1) := by decide +kernel
theorem dX8_copyFrom_6 : decode cX8_copyFrom 6 = .ok (.getfield 9, 3) := by decide +kernel
theorem dX8_copyFrom_9 : decode cX8_copyFrom 9 = .ok (.iconst 0, 1) := by decide +kernel
theorem dX8_copyFrom_10 : decode cX8_copyFrom 10 = .ok (.sipush 1500, 3) := by decide +kernel
theorem dX8_copyFrom_13 : decode cX8_copyFrom 13 = .ok (.invokestatic 23, 3) := by decide +kernel
theorem dX8_copyFrom_16 : decode cX8_copyFrom 16 = .ok (.aload_n 0, 1) := by decide +kernel
theorem dX8_copyFrom_17 : decode cX8_copyFrom 17 = .ok (.aload_n 1, 1) := by decide +kernel
theorem dX8_copyFrom_18 : decode cX8_copyFrom 18 = .ok (.getfield 15, 3) := by decide +kernel
theorem dX8_copyFrom_21 : decode cX8_copyFrom 21 = .ok (.putfield 15, 3) := by decide +kernel
theorem dX8_copyFrom_24 : decode cX8_copyFrom 24 = .ok (.return_, 1) := by decide +kernel
theorem dX8_add_0 : decode cX8_add 0 = .ok (.aload_n 0, 1) := by decide +kernel
theorem dX8_add_1 : decode cX8_add 1 = .ok (.getfield 15, 3) := by decide +kernel
theorem dX8_add_4 : decode cX8_add 4 = .ok (.sipush 6000, 3) := by decide +kernel
theorem dX8_add_7 : decode cX8_add 7 = .ok (.if_icmp .lt 4, 3) := by decide +kernel
theorem dX8_add_10 : decode cX8_add 10 = .ok (.return_, 1) := by decide +kernel
theorem dX8_add_11 : decode cX8_add 11 = .ok (.bipush 24, 2) := by decide +kernel
theorem dX8_add_13 : decode cX8_add 13 = .ok (.bipush 8, 2) := by decide +kernel
theorem dX8_add_15 : decode cX8_add 15 = .ok (.aload_n 0, 1) := by decide +kernel
theorem dX8_add_16 : decode cX8_add 16 = .ok (.getfield 15, 3) := by decide +kernel
theorem dX8_add_19 : decode cX8_add 19 = .ok (.iconst 3, 1) := by decide +kernel
theorem dX8_add_20 : decode cX8_add 20 = .ok (.iand, 1) := by decide +kernel
theorem dX8_add_21 : decode cX8_add 21 = .ok (.imul, 1) := by decide +kernel
theorem dX8_add_22 : decode cX8_add 22 = .ok (.isub, 1) := by decide +kernel
theorem dX8_add_23 : decode cX8_add 23 = .ok (.istore_n 2, 1) := by decide +kernel
theorem dX8_add_24 : decode cX8_add 24 = .ok (.aload_n 0, 1) := by decide +kernel
theorem dX8_add_25 : decode cX8_add 25 = .ok (.getfield 9, 3) := by decide +kernel
theorem dX8_add_28 : decode cX8_add 28 = .ok (.aload_n 0, 1) := by decide +kernel
theorem dX8_add_29 : decode cX8_add 29 = .ok (.getfield 15, 3) := by decide +kernel
theorem dX8_add_32 : decode cX8_add 32 = .ok (.iconst 2, 1) := by decide +kernel
theorem dX8_add_33 : decode cX8_add 33 = .ok (.ishr, 1) := by decide +kernel
theorem dX8_add_34 : decode cX8_add 34 = .ok (.iaload, 1) := by decide +kernel
theorem dX8_add_35 : decode cX8_add 35 = .ok (.sipush 255, 3) := by decide +kernel
theorem dX8_add_38 : decode cX8_add 38 = .ok (.iload_n 2, 1) := by decide +kernel
theorem dX8_add_39 : decode cX8_add 39 = .ok (.ishl, 1) := by decide +kernel
theorem dX8_add_40 : decode cX8_add 40 = .ok (.iconst (-1), 1) := by decide +kernel
theorem dX8_add_41 : decode cX8_add 41 = .ok (.ixor, 1) := by decide +kernel
theorem dX8_add_42 : decode cX8_add 42 = .ok (.iand, 1) := by decide +kernel
theorem dX8_add_43 : decode cX8_add 43 = .ok (.istore_n 3, 1) := by decide +kernel
theorem dX8_add_44 : decode cX8_add 44 = .ok (.aload_n 0, 1) := by decide +kernel
theorem dX8_add_45 : decode cX8_add 45 = .ok (.getfield 9, 3) := by decide +kernel
theorem dX8_add_48 : decode cX8_add 48 = .ok (.aload_n 0, 1) := by decide +kernel
theorem dX8_add_49 : decode cX8_add 49 = .ok (.getfield 15, 3) := by decide +kernel
theorem dX8_add_52 : decode cX8_add 52 = .ok (.iconst 2, 1) := by decide +kernel
theorem dX8_add_53 : decode cX8_add 53 = .ok (.ishr, 1) := by decide +kernel
theorem dX8_add_54 : decode cX8_add 54 = .ok (.iload_n 3, 1) := by decide +kernel
theorem dX8_add_55 : decode cX8_add 55 = .ok (.iload_n 1, 1) := by decide +kernel
theorem dX8_add_56 : decode cX8_add 56 = .ok (.iload_n 2, 1) := by decide +kernel
theorem dX8_add_57 : decode cX8_add 57 = .ok (.ishl, 1) := by decide +kernel
theorem dX8_add_58 : decode cX8_add 58 = .ok (.ior, 1) := by decide +kernel
theorem dX8_add_59 : decode cX8_add 59 = .ok (.iastore, 1) := by decide +kernel
theorem dX8_add_60 : decode cX8_add 60 = .ok (.aload_n 0, 1) := by decide +kernel
theorem dX8_add_61 : decode cX8_add 61 = .ok (.dup, 1) := by decide +kernel
theorem dX8_add_62 : decode cX8_add 62 = .ok (.getfield 15, 3) := by decide +kernel
theorem dX8_add_65 : decode cX8_add 65 = .ok (.iconst 1, 1) := by decide +kernel
theorem dX8_add_66 : decode cX8_add 66 = .ok (.iadd, 1) := by decide +kernel
theorem dX8_add_67 : decode cX8_add 67 = .ok (.putfield 15, 3) := by decide +kernel
theorem dX8_add_70 : decode cX8_add 70 = .ok (.return_, 1) := by decide +kernel
theorem dJ6_compare_7cf53_0 : decode cJ6_compare_7cf53 0 = .ok (.iload_n 0, 1) := by decide +kernel
theorem dJ6_compare_7cf53_1 : decode cJ6_compare_7cf53 1 = .ok (.iload_n 1, 1) := by decide +kernel
theorem dJ6_compare_7cf53_2 : decode cJ6_compare_7cf53 2 = .ok (.if_icmp .ge 7, 3) := by decide +kernel
theorem dJ6_compare_7cf53_5 : decode cJ6_compare_7cf53 5 = .ok (.iconst (-1), 1) := by decide +kernel
theorem dJ6_compare_7cf53_6 : decode cJ6_compare_7cf53 6 = .ok (.goto 13, 3) := by decide +kernel
theorem dJ6_compare_7cf53_9 : decode cJ6_compare_7cf53 9 = .ok (.iload_n 0, 1) := by decide +kernel
theorem dJ6_compare_7cf53_10 : decode cJ6_compare_7cf53 10 = .ok (.iload_n 1, 1) := by decide +kernel
theorem dJ6_compare_7cf53_11 : decode cJ6_compare_7cf53 11 = .ok (.if_icmp .ne 7, 3) := by decide +kernel
theorem dJ6_compare_7cf53_14 : decode cJ6_compare_7cf53 14 = .ok (.iconst 0, 1) := by decide +kernel
theorem dJ6_compare_7cf53_15 : decode cJ6_compare_7cf53 15 = .ok (.goto 4, 3) := by decide +kernel
theorem dJ6_compare_7cf53_18 : decode cJ6_compare_7cf53 18 = .ok (.iconst 1, 1) := by decide +kernel
theorem dJ6_compare_7cf53_19 : decode cJ6_compare_7cf53 19 = .ok (.ireturn, 1) := by decide +kernel
theorem dJ6_signum_0f7a4_0 : decode cJ6_signum_0f7a4 0 = .ok (.iload_n 0, 1) := by decide +kernel
theorem dJ6_signum_0f7a4_1 : decode cJ6_signum_0f7a4 1 = .ok (.bipush 31, 2) := by decide +kernel
theorem dJ6_signum_0f7a4_3 : decode cJ6_signum_0f7a4 3 = .ok (.ishr, 1) := by decide +kernel
theorem dJ6_signum_0f7a4_4 : decode cJ6_signum_0f7a4 4 = .ok (.iload_n 0, 1) := by decide +kernel
theorem dJ6_signum_0f7a4_5 : decode cJ6_signum_0f7a4 5 = .ok (.ineg, 1) := by decide +kernel
theorem dJ6_signum_0f7a4_6 : decode cJ6_signum_0f7a4 6 = .ok (.bipush 31, 2) := by decide +kernel
theorem dJ6_signum_0f7a4_8 : decode cJ6_signum_0f7a4 8 = .ok (.iushr, 1) := by decide +kernel
theorem dJ6_signum_0f7a4_9 : decode cJ6_signum_0f7a4 9 = .ok (.ior, 1) := by decide +kernel
theorem dJ6_signum_0f7a4_10 : decode cJ6_signum_0f7a4 10 = .ok (.ireturn, 1) := by decide +kernel
theorem dJ9_abs_0f7a4_0 : decode cJ9_abs_0f7a4 0 = .ok (.iload_n 0, 1) := by decide +kernel
theorem dJ9_abs_0f7a4_1 : decode cJ9_abs_0f7a4 1 = .ok (.ifCond .ge 8, 3) := by decide +kernel
theorem dJ9_abs_0f7a4_4 : decode cJ9_abs_0f7a4 4 = .ok (.iload_n 0, 1) := by decide +kernel
theorem dJ9_abs_0f7a4_5 : decode cJ9_abs_0f7a4 5 = .ok (.ineg, 1) := by decide +kernel
theorem dJ9_abs_0f7a4_6 : decode cJ9_abs_0f7a4 6 = .ok (.goto 4, 3) := by decide +kernel
theorem dJ9_abs_0f7a4_9 : decode cJ9_abs_0f7a4 9 = .ok (.iload_n 0, 1) := by decide +kernel
theorem dJ9_abs_0f7a4_10 : decode cJ9_abs_0f7a4 10 = .ok (.ireturn, 1) := by decide +kernel
theorem dJ9_max_7cf53_0 : decode cJ9_max_7cf53 0 = .ok (.iload_n 0, 1) := by decide +kernel
theorem dJ9_max_7cf53_1 : decode cJ9_max_7cf53 1 = .ok (.iload_n 1, 1) := by decide +kernel
theorem dJ9_max_7cf53_2 : decode cJ9_max_7cf53 2 = .ok (.if_icmp .lt 7, 3) := by decide +kernel
theorem dJ9_max_7cf53_5 : decode cJ9_max_7cf53 5 = .ok (.iload_n 0, 1) := by decide +kernel
theorem dJ9_max_7cf53_6 : decode cJ9_max_7cf53 6 = .ok (.goto 4, 3) := by decide +kernel
theorem dJ9_max_7cf53_9 : decode cJ9_max_7cf53 9 = .ok (.iload_n 1, 1) := by decide +kernel
theorem dJ9_max_7cf53_10 : decode cJ9_max_7cf53 10 = .ok (.ireturn, 1) := by decide +kernel
theorem dJ9_min_7cf53_0 : decode cJ9_min_7cf53 0 = .ok (.iload_n 0, 1) := by decide +kernel
theorem dJ9_min_7cf53_1 : decode cJ9_min_7cf53 1 = .ok (.iload_n 1, 1) := by decide +kernel
theorem dJ9_min_7cf53_2 : decode cJ9_min_7cf53 2 = .ok (.if_icmp .gt 7, 3) := by decide +kernel
theorem dJ9_min_7cf53_5 : decode cJ9_min_7cf53 5 = .ok (.iload_n 0, 1) := by decide +kernel
theorem dJ9_min_7cf53_6 : decode cJ9_min_7cf53 6 = .ok (.goto 4, 3) := by decide +kernel
theorem dJ9_min_7cf53_9 : decode cJ9_min_7cf53 9 = .ok (.iload_n 1, 1) := by decide +kernel
theorem dJ9_min_7cf53_10 : decode cJ9_min_7cf53 10 = .ok (.ireturn, 1) := by decide +kernel
theorem dJ7_fill_53178_0 : decode cJ7_fill_53178 0 = .ok (.iconst 0, 1) := by decide +kernel
theorem dJ7_fill_53178_1 : decode cJ7_fill_53178 1 = .ok (.istore_n 2, 1) := by decide +kernel
theorem dJ7_fill_53178_2 : decode cJ7_fill_53178 2 = .ok (.aload_n 0, 1) := by decide +kernel
theorem dJ7_fill_53178_3 : decode cJ7_fill_53178 3 = .ok (.arraylength, 1) := by decide +kernel
theorem dJ7_fill_53178_4 : decode cJ7_fill_53178 4 = .ok (.istore_n 3, 1) := by decide +kernel
theorem dJ7_fill_53178_5 : decode cJ7_fill_53178 5 = .ok (.iload_n 2, 1) := by decide +kernel
theorem dJ7_fill_53178_6 : decode cJ7_fill_53178 6 = .ok (.iload_n 3, 1) := by decide +kernel
theorem dJ7_fill_53178_7 : decode cJ7_fill_53178 7 = .ok (.if_icmp .ge 13, 3) := by decide +kernel
theorem dJ7_fill_53178_10 : decode cJ7_fill_53178 10 = .ok (.aload_n 0, 1) := by decide +kernel
theorem dJ7_fill_53178_11 : decode cJ7_fill_53178 11 = .ok (.iload_n 2, 1) := by decide +kernel
theorem dJ7_fill_53178_12 : decode cJ7_fill_53178 12 = .ok (.iload_n 1, 1) := by decide +kernel
theorem dJ7_fill_53178_13 : decode cJ7_fill_53178 13 = .ok (.iastore, 1) := by decide +kernel
theorem dJ7_fill_53178_14 : decode cJ7_fill_53178 14 = .ok (.iinc 2 1, 3) := by decide +kernel
theorem dJ7_fill_53178_17 : decode cJ7_fill_53178 17 = .ok (.goto (-12), 3) := by decide +kernel
theorem dJ7_fill_53178_20 : decode cJ7_fill_53178 20 = .ok (.return_, 1) := by decide +kernel
end
section
theorem dX4_init_0 : decode cX4_init 0 = .ok (.aload_n 0, 1) := by decide +kernel
theorem dX4_init_1 : decode cX4_init 1 = .ok (.invokespecial 3, 3) := by decide +kernel
theorem dX4_init_4 : decode cX4_init 4 = .ok (.aload_n 0, 1) := by decide +kernel
theorem dX4_init_5 : decode cX4_init 5 = .ok (.sipush 256, 3) := by decide +kernel
theorem dX4_init_8 : decode cX4_init 8 = .ok (.newarray .int, 2) := by decide +kernel
theorem dX4_init_10 : decode cX4_init 10 = .ok (.putfield 9, 3) := by decide +kernel
theorem dX4_init_13 : decode cX4_init 13 = .ok (.aload_n 0, 1) := by decide +kernel
theorem dX4_init_14 : decode cX4_init 14 = .ok (.aload_n 1, 1) := by decide +kernel
theorem dX4_init_15 : decode cX4_init 15 = .ok (.putfield 15, 3) := by decide +kernel
theorem dX4_init_18 : decode cX4_init 18 = .ok (.return_, 1) := by decide +kernel
theorem dX4_read_0 : decode cX4_read 0 = .ok (.aload_n 0, 1) := by decide +kernel
theorem dX4_read_1 : decode cX4_read 1 = .ok (.iconst 0, 1) := by decide +kernel
theorem dX4_read_2 : decode cX4_read 2 = .ok (.putfield 19, 3) := by decide +kernel
theorem dX4_read_5 : decode cX4_read 5 = .ok (.aload_n 0, 1) := by decide +kernel
theorem dX4_read_6 : decode cX4_read 6 = .ok (.iconst 0, 1) := by decide +kernel
theorem dX4_read_7 : decode cX4_read 7 = .ok (.putfield 23, 3) := by decide +kernel
theorem dX4_read_10 : decode cX4_read 10 = .ok (.aload_n 0, 1) := by decide +kernel
theorem dX4_read_11 : decode cX4_read 11 = .ok (.getfield 15, 3) := by decide +kernel
theorem dX4_read_14 : decode cX4_read 14 = .ok (.invokevirtual 26, 3) := by decide +kernel
theorem dX4_read_17 : decode cX4_read 17 = .ok (.aload_n 0, 1) := by decide +kernel
theorem dX4_read_18 : decode cX4_read 18 = .ok (.invokevirtual 31, 3) := by decide +kernel
theorem dX4_read_21 : decode cX4_read 21 = .ok (.iconst 0, 1) := by decide +kernel
theorem dX4_read_22 : decode cX4_read 22 = .ok (.istore_n 1, 1) := by decide +kernel
theorem dX4_read_23 : decode cX4_read 23 = .ok (.iload_n 1, 1) := by decide +kernel
theorem dX4_read_24 : decode cX4_read 24 = .ok (.sipush 6000, 3) := by decide +kernel
theorem dX4_read_27 : decode cX4_read 27 = .ok (.if_icmp .ge 37, 3) := by decide +kernel
theorem dX4_read_30 : decode cX4_read 30 = .ok (.aload_n 0, 1) := by decide +kernel
theorem dX4_read_31 : decode cX4_read 31 = .ok (.getfield 19, 3) := by decide +kernel
theorem dX4_read_34 : decode cX4_read 34 = .ok (.ifCond .ne 30, 3) := by decide +kernel
theorem dX4_read_37 : decode cX4_read 37 = .ok (.aload_n 0, 1) := by decide +kernel
theorem dX4_read_38 : decode cX4_read 38 = .ok (.getfield 34, 3) := by decide +kernel
theorem dX4_read_41 : decode cX4_read 41 = .ok (.aload_n 0, 1) := by decide +kernel
theorem dX4_read_42 : decode cX4_read 42 = .ok (.getfield 15, 3) := by decide +kernel
theorem dX4_read_45 : decode cX4_read 45 = .ok (.getfield 37, 3) := by decide +kernel
theorem dX4_read_48 : decode cX4_read 48 = .ok (.getfield 41, 3) := by decide +kernel
theorem dX4_read_51 : decode cX4_read 51 = .ok (.if_icmp .ge 13, 3) := by decide +kernel
theorem dX4_read_54 : decode cX4_read 54 = .ok (.aload_n 0, 1) := by decide +kernel
theorem dX4_read_55 : decode cX4_read 55 = .ok (.invokevirtual 46, 3) := by decide +kernel
theorem dX4_read_58 : decode cX4_read 58 = .ok (.iinc 1 1, 3) := by decide +kernel
theorem dX4_read_61 : decode cX4_read 61 = .ok (.goto (-38), 3) := by decide +kernel
theorem dX4_read_64 : decode cX4_read 64 = .ok (.aload_n 0, 1) := by decide +kernel
theorem dX4_read_65 : decode cX4_read 65 = .ok (.getfield 19, 3) := by decide +kernel
theorem dX4_read_68 : decode cX4_read 68 = .ok (.ifCond .ne 7, 3) := by decide +kernel
theorem dX4_read_71 : decode cX4_read 71 = .ok (.iload_n 1, 1) := by decide +kernel
theorem dX4_read_72 : decode cX4_read 72 = .ok (.goto 4, 3) := by decide +kernel
theorem dX4_read_75 : decode cX4_read 75 = .ok (.iconst (-1), 1) := by decide +kernel
theorem dX4_read_76 : decode cX4_read 76 = .ok (.ireturn, 1) := by decide +kernel
theorem dX4_readMark_0 : decode cX4_readMark 0 = .ok (.aload_n 0, 1) := by decide +kernel
theorem dX4_readMark_1 : decode cX4_readMark 1 = .ok (.iconst 0, 1) := by decide +kernel
theorem dX4_readMark_2 : decode cX4_readMark 2 = .ok (.putfield 34, 3) := by decide +kernel
theorem dX4_readMark_5 : decode cX4_readMark 5 = .ok (.iconst 0, 1) := by decide +kernel
theorem dX4_readMark_6 : decode cX4_readMark 6 = .ok (.istore_n 1, 1) := by decide +kernel
theorem dX4_readMark_7 : decode cX4_readMark 7 = .ok (.iload_n 1, 1) := by decide +kernel
theorem dX4_readMark_8 : decode cX4_readMark 8 = .ok (.getstatic 49, 3) := by decide +kernel
theorem dX4_readMark_11 : decode cX4_readMark 11 = .ok (.arraylength, 1) := by decide +kernel
theorem dX4_readMark_12 : decode cX4_readMark 12 = .ok (.if_icmp .ge 53, 3) := by decide +kernel
theorem dX4_readMark_15 : decode cX4_readMark 15 = .ok (.aload_n 0, 1) := by decide +kernel
theorem dX4_readMark_16 : decode cX4_readMark 16 = .ok (.getfield 19, 3) := by decide +kernel
theorem dX4_readMark_19 : decode cX4_readMark 19 = .ok (.ifCond .ne 46, 3) := by decide +kernel
theorem dX4_readMark_22 : decode cX4_readMark 22 = .ok (.aload_n 0, 1) := by decide +kernel
theorem dX4_readMark_23 : decode cX4_readMark 23 = .ok (.getfield 15, 3) := by decide +kernel
theorem dX4_readMark_26 : decode cX4_readMark 26 = .ok (.getfield 37, 3) := by decide +kernel
theorem dX4_readMark_29 : decode cX4_readMark 29 = .ok (.iload_n 1, 1) := by decide +kernel
theorem dX4_readMark_30 : decode cX4_readMark 30 = .ok (.invokevirtual 52, 3) := by decide +kernel
theorem dX4_readMark_33 : decode cX4_readMark 33 = .ok (.getstatic 49, 3) := by decide +kernel
theorem dX4_readMark_36 : decode cX4_readMark 36 = .ok (.iload_n 1, 1) := by decide +kernel
theorem dX4_readMark_37 : decode cX4_readMark 37 = .ok (.iaload, 1) := by decide +kernel
theorem dX4_readMark_38 : decode cX4_readMark 38 = .ok (.if_icmp .ne 16, 3) := by decide +kernel
theorem dX4_readMark_41 : decode cX4_readMark 41 = .ok (.aload_n 0, 1) := by decide +kernel
theorem dX4_readMark_42 : decode cX4_readMark 42 = .ok (.dup, 1) := by decide +kernel
theorem dX4_readMark_43 : decode cX4_readMark 43 = .ok (.getfield 34, 3) := by decide +kernel
theorem dX4_readMark_46 : decode cX4_readMark 46 = .ok (.iconst 1, 1) := by decide +kernel
theorem dX4_readMark_47 : decode cX4_readMark 47 = .ok (.iadd, 1) := by decide +kernel
theorem dX4_readMark_48 : decode cX4_readMark 48 = .ok (.putfield 34, 3) := by decide +kernel
theorem dX4_readMark_51 : decode cX4_readMark 51 = .ok (.goto 8, 3) := by decide +kernel
theorem dX4_readMark_54 : decode cX4_readMark 54 = .ok (.aload_n 0, 1) := by decide +kernel
theorem dX4_readMark_55 : decode cX4_readMark 55 = .ok (.iconst 1, 1) := by decide +kernel
theorem dX4_readMark_56 : decode cX4_readMark 56 = .ok (.invokevirtual 56, 3) := by decide +kernel
theorem dX4_readMark_59 : decode cX4_readMark 59 = .ok (.iinc 1 1, 3) := by decide +kernel
theorem dX4_readMark_62 : decode cX4_readMark 62 = .ok (.goto (-55), 3) := by decide +kernel
theorem dX4_readMark_65 : decode cX4_readMark 65 = .ok (.return_, 1) := by decide +kernel
theorem dX4_readBlock_0 : decode cX4_readBlock 0 = .ok (.aload_n 0, 1) := by decide +kernel
theorem dX4_readBlock_1 : decode cX4_readBlock 1 = .ok (.getfield 15, 3) := by decide +kernel
theorem dX4_readBlock_4 : decode cX4_readBlock 4 = .ok (.getfield 37, 3) := by decide +kernel
theorem dX4_readBlock_7 : decode cX4_readBlock 7 = .ok (.aload_n 0, 1) := by decide +kernel
theorem dX4_readBlock_8 : decode cX4_readBlock 8 = .ok (.getfield 34, 3) := by decide +kernel
theorem dX4_readBlock_11 : decode cX4_readBlock 11 = .ok (.invokevirtual 52, 3) := by decide +kernel
theorem dX4_readBlock_14 : decode cX4_readBlock 14 = .ok (.istore_n 1, 1) := by decide +kernel
theorem dX4_readBlock_15 : decode cX4_readBlock 15 = .ok (.aload_n 0, 1) := by decide +kernel
theorem dX4_readBlock_16 : decode cX4_readBlock 16 = .ok (.iload_n 1, 1) := by decide +kernel
theorem dX4_readBlock_17 : decode cX4_readBlock 17 = .ok (.invokevirtual 60, 3) := by decide +kernel
theorem dX4_readBlock_20 : decode cX4_readBlock 20 = .ok (.ifCond .ne 4, 3) := by decide +kernel
theorem dX4_readBlock_23 : decode cX4_readBlock 23 = .ok (.return_, 1) := by decide +kernel
theorem dX4_readBlock_24 : decode cX4_readBlock 24 = .ok (.iload_n 1, 1) := by decide +kernel
theorem dX4_readBlock_25 : decode cX4_readBlock 25 = .ok (.tableswitch 56 79 83 #[49, 56, 56, 35, 42], 35) := by decide +kernel
theorem dX4_readBlock_60 : decode cX4_readBlock 60 = .ok (.aload_n 0, 1) := by decide +kernel
theorem dX4_readBlock_61 : decode cX4_readBlock 61 = .ok (.invokevirtual 64, 3) := by decide +kernel
theorem dX4_readBlock_64 : decode cX4_readBlock 64 = .ok (.goto 21, 3) := by decide +kernel
theorem dX4_readBlock_67 : decode cX4_readBlock 67 = .ok (.aload_n 0, 1) := by decide +kernel
theorem dX4_readBlock_68 : decode cX4_readBlock 68 = .ok (.invokevirtual 67, 3) := by decide +kernel
theorem dX4_readBlock_71 : decode cX4_readBlock 71 = .ok (.goto 14, 3) := by decide +kernel
theorem dX4_readBlock_74 : decode cX4_readBlock 74 = .ok (.aload_n 0, 1) := by decide +kernel
theorem dX4_readBlock_75 : decode cX4_readBlock 75 = .ok (.invokevirtual 70, 3) := by decide +kernel
theorem dX4_readBlock_78 : decode cX4_readBlock 78 = .ok (.goto 7, 3) := by decide +kernel
theorem dX4_readBlock_81 : decode cX4_readBlock 81 = .ok (.aload_n 0, 1) := by decide +kernel
theorem dX4_readBlock_82 : decode cX4_readBlock 82 = .ok (.invokevirtual 73, 3) := by decide +kernel
theorem dX4_readBlock_85 : decode cX4_readBlock 85 = .ok (.aload_n 0, 1) := by decide +kernel
theorem dX4_readBlock_86 : decode cX4_readBlock 86 = .ok (.getfield 34, 3) := by decide +kernel
theorem dX4_readBlock_89 : decode cX4_readBlock 89 = .ok (.aload_n 0, 1) := by decide +kernel
theorem dX4_readBlock_90 : decode cX4_readBlock 90 = .ok (.getfield 76, 3) := by decide +kernel
theorem dX4_readBlock_93 : decode cX4_readBlock 93 = .ok (.if_icmp .ge 8, 3) := by decide +kernel
theorem dX4_readBlock_96 : decode cX4_readBlock 96 = .ok (.aload_n 0, 1) := by decide +kernel
theorem dX4_readBlock_97 : decode cX4_readBlock 97 = .ok (.iconst 4, 1) := by decide +kernel
theorem dX4_readBlock_98 : decode cX4_readBlock 98 = .ok (.invokevirtual 56, 3) := by decide +kernel
theorem dX4_readBlock_101 : decode cX4_readBlock 101 = .ok (.return_, 1) := by decide +kernel
theorem dX4_readHead_0 : decode cX4_readHead 0 = .ok (.iload_n 1, 1) := by decide +kernel
theorem dX4_readHead_1 : decode cX4_readHead 1 = .ok (.bipush 82, 2) := by decide +kernel
theorem dX4_readHead_3 : decode cX4_readHead 3 = .ok (.if_icmp .eq 28, 3) := by decide +kernel
theorem dX4_readHead_6 : decode cX4_readHead 6 = .ok (.iload_n 1, 1) := by decide +kernel
theorem dX4_readHead_7 : decode cX4_readHead 7 = .ok (.bipush 83, 2) := by decide +kernel
theorem dX4_readHead_9 : decode cX4_readHead 9 = .ok (.if_icmp .eq 22, 3) := by decide +kernel
theorem dX4_readHead_12 : decode cX4_readHead 12 = .ok (.iload_n 1, 1) := by decide +kernel
theorem dX4_readHead_13 : decode cX4_readHead 13 = .ok (.bipush 79, 2) := by decide +kernel
theorem dX4_readHead_15 : decode cX4_readHead 15 = .ok (.if_icmp .eq 16, 3) := by decide +kernel
theorem dX4_readHead_18 : decode cX4_readHead 18 = .ok (.iload_n 1, 1) := by decide +kernel
theorem dX4_readHead_19 : decode cX4_readHead 19 = .ok (.bipush 65, 2) := by decide +kernel
theorem dX4_readHead_21 : decode cX4_readHead 21 = .ok (.if_icmp .eq 10, 3) := by decide +kernel
theorem dX4_readHead_24 : decode cX4_readHead 24 = .ok (.aload_n 0, 1) := by decide +kernel
theorem dX4_readHead_25 : decode cX4_readHead 25 = .ok (.iconst 2, 1) := by decide +kernel
theorem dX4_readHead_26 : decode cX4_readHead 26 = .ok (.invokevirtual 56, 3) := by decide +kernel
theorem dX4_readHead_29 : decode cX4_readHead 29 = .ok (.iconst 0, 1) := by decide +kernel
theorem dX4_readHead_30 : decode cX4_readHead 30 = .ok (.ireturn, 1) := by decide +kernel
theorem dX4_readHead_31 : decode cX4_readHead 31 = .ok (.aload_n 0, 1) := by decide +kernel
theorem dX4_readHead_32 : decode cX4_readHead 32 = .ok (.getfield 34, 3) := by decide +kernel
theorem dX4_readHead_35 : decode cX4_readHead 35 = .ok (.iconst 3, 1) := by decide +kernel
theorem dX4_readHead_36 : decode cX4_readHead 36 = .ok (.iadd, 1) := by decide +kernel
theorem dX4_readHead_37 : decode cX4_readHead 37 = .ok (.istore_n 2, 1) := by decide +kernel
theorem dX4_readHead_38 : decode cX4_readHead 38 = .ok (.aload_n 0, 1) := by decide +kernel
theorem dX4_readHead_39 : decode cX4_readHead 39 = .ok (.getfield 15, 3) := by decide +kernel
theorem dX4_readHead_42 : decode cX4_readHead 42 = .ok (.getfield 37, 3) := by decide +kernel
theorem dX4_readHead_45 : decode cX4_readHead 45 = .ok (.aload_n 0, 1) := by decide +kernel
theorem dX4_readHead_46 : decode cX4_readHead 46 = .ok (.getfield 34, 3) := by decide +kernel
theorem dX4_readHead_49 : decode cX4_readHead 49 = .ok (.iconst 1, 1) := by decide +kernel
theorem dX4_readHead_50 : decode cX4_readHead 50 = .ok (.iadd, 1) := by decide +kernel
theorem dX4_readHead_51 : decode cX4_readHead 51 = .ok (.invokevirtual 52, 3) := by decide +kernel
theorem dX4_readHead_54 : decode cX4_readHead 54 = .ok (.bipush 8, 2) := by decide +kernel
theorem dX4_readHead_56 : decode cX4_readHead 56 = .ok (.ishl, 1) := by decide +kernel
theorem dX4_readHead_57 : decode cX4_readHead 57 = .ok (.aload_n 0, 1) := by decide +kernel
theorem dX4_readHead_58 : decode cX4_readHead 58 = .ok (.getfield 15, 3) := by decide +kernel
theorem dX4_readHead_61 : decode cX4_readHead 61 = .ok (.getfield 37, 3) := by decide +kernel
theorem dX4_readHead_64 : decode cX4_readHead 64 = .ok (.aload_n 0, 1) := by decide +kernel
theorem dX4_readHead_65 : decode cX4_readHead 65 = .ok (.getfield 34, 3) := by decide +kernel
theorem dX4_readHead_68 : decode cX4_readHead 68 = .ok (.iconst 2, 1) := by decide +kernel
theorem dX4_readHead_69 : decode cX4_readHead 69 = .ok (.iadd, 1) := by decide +kernel
theorem dX4_readHead_70 : decode cX4_readHead 70 = .ok (.invokevirtual 52, 3) := by decide +kernel
theorem dX4_readHead_73 : decode cX4_readHead 73 = .ok (.ior, 1) := by decide +kernel
theorem dX4_readHead_74 : decode cX4_readHead 74 = .ok (.istore_n 3, 1) := by decide +kernel
theorem dX4_readHead_75 : decode cX4_readHead 75 = .ok (.iload_n 2, 1) := by decide +kernel
theorem dX4_readHead_76 : decode cX4_readHead 76 = .ok (.aload_n 0, 1) := by decide +kernel
theorem dX4_readHead_77 : decode cX4_readHead 77 = .ok (.getfield 15, 3) := by decide +kernel
theorem dX4_readHead_80 : decode cX4_readHead 80 = .ok (.getfield 37, 3) := by decide +kernel
theorem dX4_readHead_83 : decode cX4_readHead 83 = .ok (.getfield 41, 3) := by decide +kernel
theorem dX4_readHead_86 : decode cX4_readHead 86 = .ok (.if_icmp .gt 19, 3) := by decide +kernel
theorem dX4_readHead_89 : decode cX4_readHead 89 = .ok (.iload_n 2, 1) := by decide +kernel
theorem dX4_readHead_90 : decode cX4_readHead 90 = .ok (.iload_n 3, 1) := by decide +kernel
theorem dX4_readHead_91 : decode cX4_readHead 91 = .ok (.iadd, 1) := by decide +kernel
theorem dX4_readHead_92 : decode cX4_readHead 92 = .ok (.aload_n 0, 1) := by decide +kernel
theorem dX4_readHead_93 : decode cX4_readHead 93 = .ok (.getfield 15, 3) := by decide +kernel
theorem dX4_readHead_96 : decode cX4_readHead 96 = .ok (.getfield 37, 3) := by decide +kernel
theorem dX4_readHead_99 : decode cX4_readHead 99 = .ok (.getfield 41, 3) := by decide +kernel
theorem dX4_readHead_102 : decode cX4_readHead 102 = .ok (.if_icmp .le 10, 3) := by decide +kernel
theorem dX4_readHead_105 : decode cX4_readHead 105 = .ok (.aload_n 0, 1) := by decide +kernel
theorem dX4_readHead_106 : decode cX4_readHead 106 = .ok (.iconst 3, 1) := by decide +kernel
theorem dX4_readHead_107 : decode cX4_readHead 107 = .ok (.invokevirtual 56, 3) := by decide +kernel
theorem dX4_readHead_110 : decode cX4_readHead 110 = .ok (.iconst 0, 1) := by decide +kernel
theorem dX4_readHead_111 : decode cX4_readHead 111 = .ok (.ireturn, 1) := by decide +kernel
theorem dX4_readHead_112 : decode cX4_readHead 112 = .ok (.aload_n 0, 1) := by decide +kernel
theorem dX4_readHead_113 : decode cX4_readHead 113 = .ok (.iload_n 2, 1) := by decide +kernel
theorem dX4_readHead_114 : decode cX4_readHead 114 = .ok (.putfield 34, 3) := by decide +kernel
theorem dX4_readHead_117 : decode cX4_readHead 117 = .ok (.aload_n 0, 1) := by decide +kernel
theorem dX4_readHead_118 : decode cX4_readHead 118 = .ok (.iload_n 2, 1) := by decide +kernel
theorem dX4_readHead_119 : decode cX4_readHead 119 = .ok (.iload_n 3, 1) := by decide +kernel
theorem dX4_readHead_120 : decode cX4_readHead 120 = .ok (.iadd, 1) := by decide +kernel
theorem dX4_readHead_121 : decode cX4_readHead 121 = .ok (.putfield 76, 3) := by decide +kernel
theorem dX4_readHead_124 : decode cX4_readHead 124 = .ok (.iconst 1, 1) := by decide +kernel
theorem dX4_readHead_125 : decode cX4_readHead 125 = .ok (.ireturn, 1) := by decide +kernel
theorem dX4_readRoom_0 : decode cX4_readRoom 0 = .ok (.aload_n 0, 1) := by decide +kernel
theorem dX4_readRoom_1 : decode cX4_readRoom 1 = .ok (.aload_n 0, 1) := by decide +kernel
theorem dX4_readRoom_2 : decode cX4_readRoom 2 = .ok (.getfield 15, 3) := by decide +kernel
theorem dX4_readRoom_5 : decode cX4_readRoom 5 = .ok (.getfield 79, 3) := by decide +kernel
theorem dX4_readRoom_8 : decode cX4_readRoom 8 = .ok (.invokevirtual 83, 3) := by decide +kernel
theorem dX4_readRoom_11 : decode cX4_readRoom 11 = .ok (.aload_n 0, 1) := by decide +kernel
theorem dX4_readRoom_12 : decode cX4_readRoom 12 = .ok (.iconst 0, 1) := by decide +kernel
theorem dX4_readRoom_13 : decode cX4_readRoom 13 = .ok (.bipush 16, 2) := by decide +kernel
theorem dX4_readRoom_15 : decode cX4_readRoom 15 = .ok (.invokevirtual 87, 3) := by decide +kernel
theorem dX4_readRoom_18 : decode cX4_readRoom 18 = .ok (.istore_n 1, 1) := by decide +kernel
theorem dX4_readRoom_19 : decode cX4_readRoom 19 = .ok (.iconst 0, 1) := by decide +kernel
theorem dX4_readRoom_20 : decode cX4_readRoom 20 = .ok (.istore_n 2, 1) := by decide +kernel
theorem dX4_readRoom_21 : decode cX4_readRoom 21 = .ok (.iload_n 2, 1) := by decide +kernel
theorem dX4_readRoom_22 : decode cX4_readRoom 22 = .ok (.iload_n 1, 1) := by decide +kernel
theorem dX4_readRoom_23 : decode cX4_readRoom 23 = .ok (.if_icmp .ge 54, 3) := by decide +kernel
theorem dX4_readRoom_26 : decode cX4_readRoom 26 = .ok (.aload_n 0, 1) := by decide +kernel
theorem dX4_readRoom_27 : decode cX4_readRoom 27 = .ok (.iconst 0, 1) := by decide +kernel
theorem dX4_readRoom_28 : decode cX4_readRoom 28 = .ok (.sipush 255, 3) := by decide +kernel
theorem dX4_readRoom_31 : decode cX4_readRoom 31 = .ok (.invokevirtual 87, 3) := by decide +kernel
theorem dX4_readRoom_34 : decode cX4_readRoom 34 = .ok (.istore_n 3, 1) := by decide +kernel
theorem dX4_readRoom_35 : decode cX4_readRoom 35 = .ok (.aload_n 0, 1) := by decide +kernel
theorem dX4_readRoom_36 : decode cX4_readRoom 36 = .ok (.iconst 0, 1) := by decide +kernel
theorem dX4_readRoom_37 : decode cX4_readRoom 37 = .ok (.sipush 255, 3) := by decide +kernel
theorem dX4_readRoom_40 : decode cX4_readRoom 40 = .ok (.invokevirtual 87, 3) := by decide +kernel
theorem dX4_readRoom_43 : decode cX4_readRoom 43 = .ok (.istore 4, 2) := by decide +kernel
theorem dX4_readRoom_45 : decode cX4_readRoom 45 = .ok (.aload_n 0, 1) := by decide +kernel
theorem dX4_readRoom_46 : decode cX4_readRoom 46 = .ok (.iload_n 3, 1) := by decide +kernel
theorem dX4_readRoom_47 : decode cX4_readRoom 47 = .ok (.sipush 255, 3) := by decide +kernel
theorem dX4_readRoom_50 : decode cX4_readRoom 50 = .ok (.invokevirtual 87, 3) := by decide +kernel
theorem dX4_readRoom_53 : decode cX4_readRoom 53 = .ok (.pop, 1) := by decide +kernel
theorem dX4_readRoom_54 : decode cX4_readRoom 54 = .ok (.aload_n 0, 1) := by decide +kernel
theorem dX4_readRoom_55 : decode cX4_readRoom 55 = .ok (.iload 4, 2) := by decide +kernel
theorem dX4_readRoom_57 : decode cX4_readRoom 57 = .ok (.sipush 255, 3) := by decide +kernel
theorem dX4_readRoom_60 : decode cX4_readRoom 60 = .ok (.invokevirtual 87, 3) := by decide +kernel
theorem dX4_readRoom_63 : decode cX4_readRoom 63 = .ok (.pop, 1) := by decide +kernel
theorem dX4_readRoom_64 : decode cX4_readRoom 64 = .ok (.aload_n 0, 1) := by decide +kernel
theorem dX4_readRoom_65 : decode cX4_readRoom 65 = .ok (.iconst 0, 1) := by decide +kernel
theorem dX4_readRoom_66 : decode cX4_readRoom 66 = .ok (.iconst 1, 1) := by decide +kernel
theorem dX4_readRoom_67 : decode cX4_readRoom 67 = .ok (.invokevirtual 87, 3) := by decide +kernel
theorem dX4_readRoom_70 : decode cX4_readRoom 70 = .ok (.pop, 1) := by decide +kernel
theorem dX4_readRoom_71 : decode cX4_readRoom 71 = .ok (.iinc 2 1, 3) := by decide +kernel
theorem dX4_readRoom_74 : decode cX4_readRoom 74 = .ok (.goto (-53), 3) := by decide +kernel
theorem dX4_readRoom_77 : decode cX4_readRoom 77 = .ok (.return_, 1) := by decide +kernel
theorem dX4_readScript_0 : decode cX4_readScript 0 = .ok (.aload_n 0, 1) := by decide +kernel
theorem dX4_readScript_1 : decode cX4_readScript 1 = .ok (.aload_n 0, 1) := by decide +kernel
theorem dX4_readScript_2 : decode cX4_readScript 2 = .ok (.getfield 15, 3) := by decide +kernel
theorem dX4_readScript_5 : decode cX4_readScript 5 = .ok (.getfield 91, 3) := by decide +kernel
theorem dX4_readScript_8 : decode cX4_readScript 8 = .ok (.invokevirtual 83, 3) := by decide +kernel
theorem dX4_readScript_11 : decode cX4_readScript 11 = .ok (.aload_n 0, 1) := by decide +kernel
theorem dX4_readScript_12 : decode cX4_readScript 12 = .ok (.iconst 0, 1) := by decide +kernel
theorem dX4_readScript_13 : decode cX4_readScript 13 = .ok (.sipush 255, 3) := by decide +kernel
theorem dX4_readScript_16 : decode cX4_readScript 16 = .ok (.invokevirtual 87, 3) := by decide +kernel
theorem dX4_readScript_19 : decode cX4_readScript 19 = .ok (.pop, 1) := by decide +kernel
theorem dX4_readScript_20 : decode cX4_readScript 20 = .ok (.aload_n 0, 1) := by decide +kernel
theorem dX4_readScript_21 : decode cX4_readScript 21 = .ok (.getfield 19, 3) := by decide +kernel
theorem dX4_readScript_24 : decode cX4_readScript 24 = .ok (.ifCond .ne 11, 3) := by decide +kernel
theorem dX4_readScript_27 : decode cX4_readScript 27 = .ok (.aload_n 0, 1) := by decide +kernel
theorem dX4_readScript_28 : decode cX4_readScript 28 = .ok (.aload_n 0, 1) := by decide +kernel
theorem dX4_readScript_29 : decode cX4_readScript 29 = .ok (.getfield 76, 3) := by decide +kernel
theorem dX4_readScript_32 : decode cX4_readScript 32 = .ok (.putfield 34, 3) := by decide +kernel
theorem dX4_readScript_35 : decode cX4_readScript 35 = .ok (.return_, 1) := by decide +kernel
theorem dX4_readObject_0 : decode cX4_readObject 0 = .ok (.aload_n 0, 1) := by decide +kernel
theorem dX4_readObject_1 : decode cX4_readObject 1 = .ok (.aload_n 0, 1) := by decide +kernel
theorem dX4_readObject_2 : decode cX4_readObject 2 = .ok (.getfield 15, 3) := by decide +kernel
theorem dX4_readObject_5 : decode cX4_readObject 5 = .ok (.getfield 94, 3) := by decide +kernel
theorem dX4_readObject_8 : decode cX4_readObject 8 = .ok (.invokevirtual 83, 3) := by decide +kernel
theorem dX4_readObject_11 : decode cX4_readObject 11 = .ok (.aload_n 0, 1) := by decide +kernel
theorem dX4_readObject_12 : decode cX4_readObject 12 = .ok (.iconst 0, 1) := by decide +kernel
theorem dX4_readObject_13 : decode cX4_readObject 13 = .ok (.bipush 20, 2) := by decide +kernel
theorem dX4_readObject_15 : decode cX4_readObject 15 = .ok (.invokevirtual 87, 3) := by decide +kernel
theorem dX4_readObject_18 : decode cX4_readObject 18 = .ok (.pop, 1) := by decide +kernel
theorem dX4_readObject_19 : decode cX4_readObject 19 = .ok (.aload_n 0, 1) := by decide +kernel
theorem dX4_readObject_20 : decode cX4_readObject 20 = .ok (.iconst 0, 1) := by decide +kernel
theorem dX4_readObject_21 : decode cX4_readObject 21 = .ok (.sipush 255, 3) := by decide +kernel
theorem dX4_readObject_24 : decode cX4_readObject 24 = .ok (.invokevirtual 87, 3) := by decide +kernel
theorem dX4_readObject_27 : decode cX4_readObject 27 = .ok (.pop, 1) := by decide +kernel
theorem dX4_readObject_28 : decode cX4_readObject 28 = .ok (.aload_n 0, 1) := by decide +kernel
theorem dX4_readObject_29 : decode cX4_readObject 29 = .ok (.iconst 0, 1) := by decide +kernel
theorem dX4_readObject_30 : decode cX4_readObject 30 = .ok (.sipush 255, 3) := by decide +kernel
theorem dX4_readObject_33 : decode cX4_readObject 33 = .ok (.invokevirtual 87, 3) := by decide +kernel
theorem dX4_readObject_36 : decode cX4_readObject 36 = .ok (.pop, 1) := by decide +kernel
theorem dX4_readObject_37 : decode cX4_readObject 37 = .ok (.aload_n 0, 1) := by decide +kernel
theorem dX4_readObject_38 : decode cX4_readObject 38 = .ok (.iconst 0, 1) := by decide +kernel
theorem dX4_readObject_39 : decode cX4_readObject 39 = .ok (.sipush 255, 3) := by decide +kernel
theorem dX4_readObject_42 : decode cX4_readObject 42 = .ok (.invokevirtual 87, 3) := by decide +kernel
theorem dX4_readObject_45 : decode cX4_readObject 45 = .ok (.pop, 1) := by decide +kernel
theorem dX4_readObject_46 : decode cX4_readObject 46 = .ok (.aload_n 0, 1) := by decide +kernel
theorem dX4_readObject_47 : decode cX4_readObject 47 = .ok (.getfield 9, 3) := by decide +kernel
theorem dX4_readObject_50 : decode cX4_readObject 50 = .ok (.iconst 0, 1) := by decide +kernel
theorem dX4_readObject_51 : decode cX4_readObject 51 = .ok (.invokestatic 97, 3) := by decide +kernel
theorem dX4_readObject_54 : decode cX4_readObject 54 = .ok (.iconst 0, 1) := by decide +kernel
theorem dX4_readObject_55 : decode cX4_readObject 55 = .ok (.istore_n 1, 1) := by decide +kernel
theorem dX4_readObject_56 : decode cX4_readObject 56 = .ok (.iload_n 1, 1) := by decide +kernel
theorem dX4_readObject_57 : decode cX4_readObject 57 = .ok (.sipush 6000, 3) := by decide +kernel
theorem dX4_readObject_60 : decode cX4_readObject 60 = .ok (.if_icmp .ge 39, 3) := by decide +kernel
theorem dX4_readObject_63 : decode cX4_readObject 63 = .ok (.aload_n 0, 1) := by decide +kernel
theorem dX4_readObject_64 : decode cX4_readObject 64 = .ok (.getfield 19, 3) := by decide +kernel
theorem dX4_readObject_67 : decode cX4_readObject 67 = .ok (.ifCond .ne 32, 3) := by decide +kernel
theorem dX4_readObject_70 : decode cX4_readObject 70 = .ok (.aload_n 0, 1) := by decide +kernel
theorem dX4_readObject_71 : decode cX4_readObject 71 = .ok (.getfield 34, 3) := by decide +kernel
theorem dX4_readObject_74 : decode cX4_readObject 74 = .ok (.aload_n 0, 1) := by decide +kernel
theorem dX4_readObject_75 : decode cX4_readObject 75 = .ok (.getfield 76, 3) := by decide +kernel
theorem dX4_readObject_78 : decode cX4_readObject 78 = .ok (.if_icmp .ge 21, 3) := by decide +kernel
theorem dX4_readObject_81 : decode cX4_readObject 81 = .ok (.aload_n 0, 1) := by decide +kernel
theorem dX4_readObject_82 : decode cX4_readObject 82 = .ok (.invokevirtual 103, 3) := by decide +kernel
theorem dX4_readObject_85 : decode cX4_readObject 85 = .ok (.aload_n 0, 1) := by decide +kernel
theorem dX4_readObject_86 : decode cX4_readObject 86 = .ok (.iconst 1, 1) := by decide +kernel
theorem dX4_readObject_87 : decode cX4_readObject 87 = .ok (.bipush 60, 2) := by decide +kernel
theorem dX4_readObject_89 : decode cX4_readObject 89 = .ok (.invokevirtual 87, 3) := by decide +kernel
theorem dX4_readObject_92 : decode cX4_readObject 92 = .ok (.pop, 1) := by decide +kernel
theorem dX4_readObject_93 : decode cX4_readObject 93 = .ok (.iinc 1 1, 3) := by decide +kernel
theorem dX4_readObject_96 : decode cX4_readObject 96 = .ok (.goto (-40), 3) := by decide +kernel
theorem dX4_readObject_99 : decode cX4_readObject 99 = .ok (.return_, 1) := by decide +kernel
theorem dX4_readActor_0 : decode cX4_readActor 0 = .ok (.aload_n 0, 1) := by decide +kernel
theorem dX4_readActor_1 : decode cX4_readActor 1 = .ok (.aload_n 0, 1) := by decide +kernel
theorem dX4_readActor_2 : decode cX4_readActor 2 = .ok (.getfield 15, 3) := by decide +kernel
theorem dX4_readActor_5 : decode cX4_readActor 5 = .ok (.getfield 106, 3) := by decide +kernel
theorem dX4_readActor_8 : decode cX4_readActor 8 = .ok (.invokevirtual 83, 3) := by decide +kernel
theorem dX4_readActor_11 : decode cX4_readActor 11 = .ok (.aload_n 0, 1) := by decide +kernel
theorem dX4_readActor_12 : decode cX4_readActor 12 = .ok (.iconst 0, 1) := by decide +kernel
theorem dX4_readActor_13 : decode cX4_readActor 13 = .ok (.bipush 20, 2) := by decide +kernel
theorem dX4_readActor_15 : decode cX4_readActor 15 = .ok (.invokevirtual 87, 3) := by decide +kernel
theorem dX4_readActor_18 : decode cX4_readActor 18 = .ok (.pop, 1) := by decide +kernel
theorem dX4_readActor_19 : decode cX4_readActor 19 = .ok (.aload_n 0, 1) := by decide +kernel
theorem dX4_readActor_20 : decode cX4_readActor 20 = .ok (.iconst 0, 1) := by decide +kernel
theorem dX4_readActor_21 : decode cX4_readActor 21 = .ok (.sipush 255, 3) := by decide +kernel
theorem dX4_readActor_24 : decode cX4_readActor 24 = .ok (.invokevirtual 87, 3) := by decide +kernel
theorem dX4_readActor_27 : decode cX4_readActor 27 = .ok (.pop, 1) := by decide +kernel
theorem dX4_readActor_28 : decode cX4_readActor 28 = .ok (.aload_n 0, 1) := by decide +kernel
theorem dX4_readActor_29 : decode cX4_readActor 29 = .ok (.iconst 0, 1) := by decide +kernel
theorem dX4_readActor_30 : decode cX4_readActor 30 = .ok (.sipush 255, 3) := by decide +kernel
theorem dX4_readActor_33 : decode cX4_readActor 33 = .ok (.invokevirtual 87, 3) := by decide +kernel
theorem dX4_readActor_36 : decode cX4_readActor 36 = .ok (.pop, 1) := by decide +kernel
theorem dX4_readActor_37 : decode cX4_readActor 37 = .ok (.aload_n 0, 1) := by decide +kernel
theorem dX4_readActor_38 : decode cX4_readActor 38 = .ok (.iconst 0, 1) := by decide +kernel
theorem dX4_readActor_39 : decode cX4_readActor 39 = .ok (.bipush 8, 2) := by decide +kernel
theorem dX4_readActor_41 : decode cX4_readActor 41 = .ok (.invokevirtual 87, 3) := by decide +kernel
theorem dX4_readActor_44 : decode cX4_readActor 44 = .ok (.pop, 1) := by decide +kernel
theorem dX4_readActor_45 : decode cX4_readActor 45 = .ok (.return_, 1) := by decide +kernel
theorem dX4_takeNumber_0 : decode cX4_takeNumber 0 = .ok (.aload_n 0, 1) := by decide +kernel
theorem dX4_takeNumber_1 : decode cX4_takeNumber 1 = .ok (.invokevirtual 109, 3) := by decide +kernel
theorem dX4_takeNumber_4 : decode cX4_takeNumber 4 = .ok (.istore_n 2, 1) := by decide +kernel
theorem dX4_takeNumber_5 : decode cX4_takeNumber 5 = .ok (.aload_n 1, 1) := by decide +kernel
theorem dX4_takeNumber_6 : decode cX4_takeNumber 6 = .ok (.iload_n 2, 1) := by decide +kernel
theorem dX4_takeNumber_7 : decode cX4_takeNumber 7 = .ok (.invokevirtual 113, 3) := by decide +kernel
theorem dX4_takeNumber_10 : decode cX4_takeNumber 10 = .ok (.ifCond .eq 11, 3) := by decide +kernel
theorem dX4_takeNumber_13 : decode cX4_takeNumber 13 = .ok (.aload_n 1, 1) := by decide +kernel
theorem dX4_takeNumber_14 : decode cX4_takeNumber 14 = .ok (.iload_n 2, 1) := by decide +kernel
theorem dX4_takeNumber_15 : decode cX4_takeNumber 15 = .ok (.invokevirtual 118, 3) := by decide +kernel
theorem dX4_takeNumber_18 : decode cX4_takeNumber 18 = .ok (.ifCond .eq 9, 3) := by decide +kernel
theorem dX4_takeNumber_21 : decode cX4_takeNumber 21 = .ok (.aload_n 0, 1) := by decide +kernel
theorem dX4_takeNumber_22 : decode cX4_takeNumber 22 = .ok (.iconst 4, 1) := by decide +kernel
theorem dX4_takeNumber_23 : decode cX4_takeNumber 23 = .ok (.invokevirtual 56, 3) := by decide +kernel
theorem dX4_takeNumber_26 : decode cX4_takeNumber 26 = .ok (.return_, 1) := by decide +kernel
theorem dX4_takeNumber_27 : decode cX4_takeNumber 27 = .ok (.aload_n 1, 1) := by decide +kernel
theorem dX4_takeNumber_28 : decode cX4_takeNumber 28 = .ok (.iload_n 2, 1) := by decide +kernel
theorem dX4_takeNumber_29 : decode cX4_takeNumber 29 = .ok (.aload_n 0, 1) := by decide +kernel
theorem dX4_takeNumber_30 : decode cX4_takeNumber 30 = .ok (.getfield 34, 3) := by decide +kernel
theorem dX4_takeNumber_33 : decode cX4_takeNumber 33 = .ok (.aload_n 0, 1) := by decide +kernel
theorem dX4_takeNumber_34 : decode cX4_takeNumber 34 = .ok (.getfield 76, 3) := by decide +kernel
theorem dX4_takeNumber_37 : decode cX4_takeNumber 37 = .ok (.invokevirtual 121, 3) := by decide +kernel
theorem dX4_takeNumber_40 : decode cX4_takeNumber 40 = .ok (.aload_n 0, 1) := by decide +kernel
theorem dX4_takeNumber_41 : decode cX4_takeNumber 41 = .ok (.dup, 1) := by decide +kernel
theorem dX4_takeNumber_42 : decode cX4_takeNumber 42 = .ok (.getfield 34, 3) := by decide +kernel
theorem dX4_takeNumber_45 : decode cX4_takeNumber 45 = .ok (.iconst 1, 1) := by decide +kernel
theorem dX4_takeNumber_46 : decode cX4_takeNumber 46 = .ok (.iadd, 1) := by decide +kernel
theorem dX4_takeNumber_47 : decode cX4_takeNumber 47 = .ok (.putfield 34, 3) := by decide +kernel
theorem dX4_takeNumber_50 : decode cX4_takeNumber 50 = .ok (.return_, 1) := by decide +kernel
theorem dX4_takeVerb_0 : decode cX4_takeVerb 0 = .ok (.aload_n 0, 1) := by decide +kernel
theorem dX4_takeVerb_1 : decode cX4_takeVerb 1 = .ok (.invokevirtual 109, 3) := by decide +kernel
theorem dX4_takeVerb_4 : decode cX4_takeVerb 4 = .ok (.istore_n 1, 1) := by decide +kernel
theorem dX4_takeVerb_5 : decode cX4_takeVerb 5 = .ok (.iload_n 1, 1) := by decide +kernel
theorem dX4_takeVerb_6 : decode cX4_takeVerb 6 = .ok (.iconst 1, 1) := by decide +kernel
theorem dX4_takeVerb_7 : decode cX4_takeVerb 7 = .ok (.if_icmp .lt 21, 3) := by decide +kernel
theorem dX4_takeVerb_10 : decode cX4_takeVerb 10 = .ok (.iload_n 1, 1) := by decide +kernel
theorem dX4_takeVerb_11 : decode cX4_takeVerb 11 = .ok (.aload_n 0, 1) := by decide +kernel
theorem dX4_takeVerb_12 : decode cX4_takeVerb 12 = .ok (.getfield 9, 3) := by decide +kernel
theorem dX4_takeVerb_15 : decode cX4_takeVerb 15 = .ok (.arraylength, 1) := by decide +kernel
theorem dX4_takeVerb_16 : decode cX4_takeVerb 16 = .ok (.if_icmp .ge 12, 3) := by decide +kernel
theorem dX4_takeVerb_19 : decode cX4_takeVerb 19 = .ok (.aload_n 0, 1) := by decide +kernel
theorem dX4_takeVerb_20 : decode cX4_takeVerb 20 = .ok (.getfield 9, 3) := by decide +kernel
theorem dX4_takeVerb_23 : decode cX4_takeVerb 23 = .ok (.iload_n 1, 1) := by decide +kernel
theorem dX4_takeVerb_24 : decode cX4_takeVerb 24 = .ok (.iaload, 1) := by decide +kernel
theorem dX4_takeVerb_25 : decode cX4_takeVerb 25 = .ok (.ifCond .eq 9, 3) := by decide +kernel
theorem dX4_takeVerb_28 : decode cX4_takeVerb 28 = .ok (.aload_n 0, 1) := by decide +kernel
theorem dX4_takeVerb_29 : decode cX4_takeVerb 29 = .ok (.iconst 4, 1) := by decide +kernel
theorem dX4_takeVerb_30 : decode cX4_takeVerb 30 = .ok (.invokevirtual 56, 3) := by decide +kernel
theorem dX4_takeVerb_33 : decode cX4_takeVerb 33 = .ok (.return_, 1) := by decide +kernel
theorem dX4_takeVerb_34 : decode cX4_takeVerb 34 = .ok (.aload_n 0, 1) := by decide +kernel
theorem dX4_takeVerb_35 : decode cX4_takeVerb 35 = .ok (.getfield 9, 3) := by decide +kernel
theorem dX4_takeVerb_38 : decode cX4_takeVerb 38 = .ok (.iload_n 1, 1) := by decide +kernel
theorem dX4_takeVerb_39 : decode cX4_takeVerb 39 = .ok (.iconst 1, 1) := by decide +kernel
theorem dX4_takeVerb_40 : decode cX4_takeVerb 40 = .ok (.iastore, 1) := by decide +kernel
theorem dX4_takeVerb_41 : decode cX4_takeVerb 41 = .ok (.aload_n 0, 1) := by decide +kernel
theorem dX4_takeVerb_42 : decode cX4_takeVerb 42 = .ok (.dup, 1) := by decide +kernel
theorem dX4_takeVerb_43 : decode cX4_takeVerb 43 = .ok (.getfield 34, 3) := by decide +kernel
theorem dX4_takeVerb_46 : decode cX4_takeVerb 46 = .ok (.iconst 1, 1) := by decide +kernel
theorem dX4_takeVerb_47 : decode cX4_takeVerb 47 = .ok (.iadd, 1) := by decide +kernel
theorem dX4_takeVerb_48 : decode cX4_takeVerb 48 = .ok (.putfield 34, 3) := by decide +kernel
theorem dX4_takeVerb_51 : decode cX4_takeVerb 51 = .ok (.return_, 1) := by decide +kernel
theorem dX4_take_0 : decode cX4_take 0 = .ok (.aload_n 0, 1) := by decide +kernel
theorem dX4_take_1 : decode cX4_take 1 = .ok (.getfield 19, 3) := by decide +kernel
theorem dX4_take_4 : decode cX4_take 4 = .ok (.ifCond .eq 5, 3) := by decide +kernel
theorem dX4_take_7 : decode cX4_take 7 = .ok (.iconst (-1), 1) := by decide +kernel
theorem dX4_take_8 : decode cX4_take 8 = .ok (.ireturn, 1) := by decide +kernel
theorem dX4_take_9 : decode cX4_take 9 = .ok (.aload_n 0, 1) := by decide +kernel
theorem dX4_take_10 : decode cX4_take 10 = .ok (.invokevirtual 109, 3) := by decide +kernel
theorem dX4_take_13 : decode cX4_take 13 = .ok (.istore_n 3, 1) := by decide +kernel
theorem dX4_take_14 : decode cX4_take 14 = .ok (.iload_n 3, 1) := by decide +kernel
theorem dX4_take_15 : decode cX4_take 15 = .ok (.iconst (-1), 1) := by decide +kernel
theorem dX4_take_16 : decode cX4_take 16 = .ok (.if_icmp .eq 13, 3) := by decide +kernel
theorem dX4_take_19 : decode cX4_take 19 = .ok (.iload_n 3, 1) := by decide +kernel
theorem dX4_take_20 : decode cX4_take 20 = .ok (.iload_n 1, 1) := by decide +kernel
theorem dX4_take_21 : decode cX4_take 21 = .ok (.if_icmp .lt 8, 3) := by decide +kernel
theorem dX4_take_24 : decode cX4_take 24 = .ok (.iload_n 3, 1) := by decide +kernel
theorem dX4_take_25 : decode cX4_take 25 = .ok (.iload_n 2, 1) := by decide +kernel
theorem dX4_take_26 : decode cX4_take 26 = .ok (.if_icmp .le 10, 3) := by decide +kernel
theorem dX4_take_29 : decode cX4_take 29 = .ok (.aload_n 0, 1) := by decide +kernel
theorem dX4_take_30 : decode cX4_take 30 = .ok (.iconst 4, 1) := by decide +kernel
theorem dX4_take_31 : decode cX4_take 31 = .ok (.invokevirtual 56, 3) := by decide +kernel
theorem dX4_take_34 : decode cX4_take 34 = .ok (.iconst (-1), 1) := by decide +kernel
theorem dX4_take_35 : decode cX4_take 35 = .ok (.ireturn, 1) := by decide +kernel
theorem dX4_take_36 : decode cX4_take 36 = .ok (.aload_n 0, 1) := by decide +kernel
theorem dX4_take_37 : decode cX4_take 37 = .ok (.dup, 1) := by decide +kernel
theorem dX4_take_38 : decode cX4_take 38 = .ok (.getfield 34, 3) := by decide +kernel
theorem dX4_take_41 : decode cX4_take 41 = .ok (.iconst 1, 1) := by decide +kernel
theorem dX4_take_42 : decode cX4_take 42 = .ok (.iadd, 1) := by decide +kernel
theorem dX4_take_43 : decode cX4_take 43 = .ok (.putfield 34, 3) := by decide +kernel
theorem dX4_take_46 : decode cX4_take 46 = .ok (.iload_n 3, 1) := by decide +kernel
theorem dX4_take_47 : decode cX4_take 47 = .ok (.ireturn, 1) := by decide +kernel
theorem dX4_peek_0 : decode cX4_peek 0 = .ok (.aload_n 0, 1) := by decide +kernel
theorem dX4_peek_1 : decode cX4_peek 1 = .ok (.getfield 34, 3) := by decide +kernel
theorem dX4_peek_4 : decode cX4_peek 4 = .ok (.aload_n 0, 1) := by decide +kernel
theorem dX4_peek_5 : decode cX4_peek 5 = .ok (.getfield 76, 3) := by decide +kernel
theorem dX4_peek_8 : decode cX4_peek 8 = .ok (.if_icmp .ge 20, 3) := by decide +kernel
theorem dX4_peek_11 : decode cX4_peek 11 = .ok (.aload_n 0, 1) := by decide +kernel
theorem dX4_peek_12 : decode cX4_peek 12 = .ok (.getfield 15, 3) := by decide +kernel
theorem dX4_peek_15 : decode cX4_peek 15 = .ok (.getfield 37, 3) := by decide +kernel
theorem dX4_peek_18 : decode cX4_peek 18 = .ok (.aload_n 0, 1) := by decide +kernel
theorem dX4_peek_19 : decode cX4_peek 19 = .ok (.getfield 34, 3) := by decide +kernel
theorem dX4_peek_22 : decode cX4_peek 22 = .ok (.invokevirtual 52, 3) := by decide +kernel
theorem dX4_peek_25 : decode cX4_peek 25 = .ok (.goto 4, 3) := by decide +kernel
theorem dX4_peek_28 : decode cX4_peek 28 = .ok (.iconst (-1), 1) := by decide +kernel
theorem dX4_peek_29 : decode cX4_peek 29 = .ok (.ireturn, 1) := by decide +kernel
theorem dX4_fail_0 : decode cX4_fail 0 = .ok (.aload_n 0, 1) := by decide +kernel
theorem dX4_fail_1 : decode cX4_fail 1 = .ok (.getfield 19, 3) := by decide +kernel
theorem dX4_fail_4 : decode cX4_fail 4 = .ok (.ifCond .ne 16, 3) := by decide +kernel
theorem dX4_fail_7 : decode cX4_fail 7 = .ok (.aload_n 0, 1) := by decide +kernel
theorem dX4_fail_8 : decode cX4_fail 8 = .ok (.iload_n 1, 1) := by decide +kernel
theorem dX4_fail_9 : decode cX4_fail 9 = .ok (.putfield 19, 3) := by decide +kernel
theorem dX4_fail_12 : decode cX4_fail 12 = .ok (.aload_n 0, 1) := by decide +kernel
theorem dX4_fail_13 : decode cX4_fail 13 = .ok (.aload_n 0, 1) := by decide +kernel
theorem dX4_fail_14 : decode cX4_fail 14 = .ok (.getfield 34, 3) := by decide +kernel
theorem dX4_fail_17 : decode cX4_fail 17 = .ok (.putfield 23, 3) := by decide +kernel
theorem dX4_fail_20 : decode cX4_fail 20 = .ok (.return_, 1) := by decide +kernel
theorem dX7_init_0 : decode cX7_init 0 = .ok (.aload_n 0, 1) := by decide +kernel
theorem dX7_init_1 : decode cX7_init 1 = .ok (.invokespecial 3, 3) := by decide +kernel
theorem dX7_init_4 : decode cX7_init 4 = .ok (.aload_n 0, 1) := by decide +kernel
theorem dX7_init_5 : decode cX7_init 5 = .ok (.iconst 1, 1) := by decide +kernel
theorem dX7_init_6 : decode cX7_init 6 = .ok (.putfield 9, 3) := by decide +kernel
theorem dX7_init_9 : decode cX7_init 9 = .ok (.aload_n 0, 1) := by decide +kernel
theorem dX7_init_10 : decode cX7_init 10 = .ok (.bipush 64, 2) := by decide +kernel
theorem dX7_init_12 : decode cX7_init 12 = .ok (.newarray .int, 2) := by decide +kernel
theorem dX7_init_14 : decode cX7_init 14 = .ok (.putfield 15, 3) := by decide +kernel
theorem dX7_init_17 : decode cX7_init 17 = .ok (.aload_n 0, 1) := by decide +kernel
theorem dX7_init_18 : decode cX7_init 18 = .ok (.bipush 64, 2) := by decide +kernel
theorem dX7_init_20 : decode cX7_init 20 = .ok (.newarray .int, 2) := by decide +kernel
theorem dX7_init_22 : decode cX7_init 22 = .ok (.putfield 19, 3) := by decide +kernel
theorem dX7_init_25 : decode cX7_init 25 = .ok (.aload_n 0, 1) := by decide +kernel
theorem dX7_init_26 : decode cX7_init 26 = .ok (.bipush 18, 2) := by decide +kernel
theorem dX7_init_28 : decode cX7_init 28 = .ok (.newarray .int, 2) := by decide +kernel
theorem dX7_init_30 : decode cX7_init 30 = .ok (.putfield 22, 3) := by decide +kernel
theorem dX7_init_33 : decode cX7_init 33 = .ok (.aload_n 0, 1) := by decide +kernel
theorem dX7_init_34 : decode cX7_init 34 = .ok (.bipush 61, 2) := by decide +kernel
theorem dX7_init_36 : decode cX7_init 36 = .ok (.newarray .int, 2) := by decide +kernel
theorem dX7_init_38 : decode cX7_init 38 = .ok (.putfield 25, 3) := by decide +kernel
theorem dX7_init_41 : decode cX7_init 41 = .ok (.aload_n 0, 1) := by decide +kernel
theorem dX7_init_42 : decode cX7_init 42 = .ok (.bipush 61, 2) := by decide +kernel
theorem dX7_init_44 : decode cX7_init 44 = .ok (.newarray .int, 2) := by decide +kernel
theorem dX7_init_46 : decode cX7_init 46 = .ok (.putfield 28, 3) := by decide +kernel
theorem dX7_init_49 : decode cX7_init 49 = .ok (.aload_n 0, 1) := by decide +kernel
theorem dX7_init_50 : decode cX7_init 50 = .ok (.bipush 21, 2) := by decide +kernel
theorem dX7_init_52 : decode cX7_init 52 = .ok (.newarray .int, 2) := by decide +kernel
theorem dX7_init_54 : decode cX7_init 54 = .ok (.putfield 31, 3) := by decide +kernel
theorem dX7_init_57 : decode cX7_init 57 = .ok (.aload_n 0, 1) := by decide +kernel
theorem dX7_init_58 : decode cX7_init 58 = .ok (.bipush 8, 2) := by decide +kernel
theorem dX7_init_60 : decode cX7_init 60 = .ok (.anewarray 34, 3) := by decide +kernel
theorem dX7_init_63 : decode cX7_init 63 = .ok (.putfield 36, 3) := by decide +kernel
theorem dX7_init_66 : decode cX7_init 66 = .ok (.aload_n 0, 1) := by decide +kernel
theorem dX7_init_67 : decode cX7_init 67 = .ok (.bipush 13, 2) := by decide +kernel
theorem dX7_init_69 : decode cX7_init 69 = .ok (.anewarray 40, 3) := by decide +kernel
theorem dX7_init_72 : decode cX7_init 72 = .ok (.putfield 42, 3) := by decide +kernel
theorem dX7_init_75 : decode cX7_init 75 = .ok (.iconst 0, 1) := by decide +kernel
theorem dX7_init_76 : decode cX7_init 76 = .ok (.istore_n 1, 1) := by decide +kernel
theorem dX7_init_77 : decode cX7_init 77 = .ok (.iload_n 1, 1) := by decide +kernel
theorem dX7_init_78 : decode cX7_init 78 = .ok (.bipush 8, 2) := by decide +kernel
theorem dX7_init_80 : decode cX7_init 80 = .ok (.if_icmp .ge 22, 3) := by decide +kernel
theorem dX7_init_83 : decode cX7_init 83 = .ok (.aload_n 0, 1) := by decide +kernel
theorem dX7_init_84 : decode cX7_init 84 = .ok (.getfield 36, 3) := by decide +kernel
theorem dX7_init_87 : decode cX7_init 87 = .ok (.iload_n 1, 1) := by decide +kernel
theorem dX7_init_88 : decode cX7_init 88 = .ok (.new 34, 3) := by decide +kernel
theorem dX7_init_91 : decode cX7_init 91 = .ok (.dup, 1) := by decide +kernel
theorem dX7_init_92 : decode cX7_init 92 = .ok (.invokespecial 46, 3) := by decide +kernel
theorem dX7_init_95 : decode cX7_init 95 = .ok (.aastore, 1) := by decide +kernel
theorem dX7_init_96 : decode cX7_init 96 = .ok (.iinc 1 1, 3) := by decide +kernel
theorem dX7_init_99 : decode cX7_init 99 = .ok (.goto (-22), 3) := by decide +kernel
theorem dX7_init_102 : decode cX7_init 102 = .ok (.iconst 0, 1) := by decide +kernel
theorem dX7_init_103 : decode cX7_init 103 = .ok (.istore_n 1, 1) := by decide +kernel
theorem dX7_init_104 : decode cX7_init 104 = .ok (.iload_n 1, 1) := by decide +kernel
theorem dX7_init_105 : decode cX7_init 105 = .ok (.bipush 12, 2) := by decide +kernel
theorem dX7_init_107 : decode cX7_init 107 = .ok (.if_icmp .gt 22, 3) := by decide +kernel
theorem dX7_init_110 : decode cX7_init 110 = .ok (.aload_n 0, 1) := by decide +kernel
theorem dX7_init_111 : decode cX7_init 111 = .ok (.getfield 42, 3) := by decide +kernel
theorem dX7_init_114 : decode cX7_init 114 = .ok (.iload_n 1, 1) := by decide +kernel
theorem dX7_init_115 : decode cX7_init 115 = .ok (.new 40, 3) := by decide +kernel
theorem dX7_init_118 : decode cX7_init 118 = .ok (.dup, 1) := by decide +kernel
theorem dX7_init_119 : decode cX7_init 119 = .ok (.invokespecial 47, 3) := by decide +kernel
theorem dX7_init_122 : decode cX7_init 122 = .ok (.aastore, 1) := by decide +kernel
theorem dX7_init_123 : decode cX7_init 123 = .ok (.iinc 1 1, 3) := by decide +kernel
theorem dX7_init_126 : decode cX7_init 126 = .ok (.goto (-22), 3) := by decide +kernel
theorem dX7_init_129 : decode cX7_init 129 = .ok (.return_, 1) := by decide +kernel
theorem dX7_open_0 : decode cX7_open 0 = .ok (.aload_n 0, 1) := by decide +kernel
theorem dX7_open_1 : decode cX7_open 1 = .ok (.iconst 0, 1) := by decide +kernel
theorem dX7_open_2 : decode cX7_open 2 = .ok (.putfield 48, 3) := by decide +kernel
theorem dX7_open_5 : decode cX7_open 5 = .ok (.aload_n 0, 1) := by decide +kernel
theorem dX7_open_6 : decode cX7_open 6 = .ok (.iconst 1, 1) := by decide +kernel
theorem dX7_open_7 : decode cX7_open 7 = .ok (.putfield 9, 3) := by decide +kernel
theorem dX7_open_10 : decode cX7_open 10 = .ok (.aload_n 0, 1) := by decide +kernel
theorem dX7_open_11 : decode cX7_open 11 = .ok (.iconst 0, 1) := by decide +kernel
theorem dX7_open_12 : decode cX7_open 12 = .ok (.putfield 51, 3) := by decide +kernel
theorem dX7_open_15 : decode cX7_open 15 = .ok (.aload_n 0, 1) := by decide +kernel
theorem dX7_open_16 : decode cX7_open 16 = .ok (.iconst 0, 1) := by decide +kernel
theorem dX7_open_17 : decode cX7_open 17 = .ok (.putfield 54, 3) := by decide +kernel
theorem dX7_open_20 : decode cX7_open 20 = .ok (.aload_n 0, 1) := by decide +kernel
theorem dX7_open_21 : decode cX7_open 21 = .ok (.iconst 0, 1) := by decide +kernel
theorem dX7_open_22 : decode cX7_open 22 = .ok (.putfield 57, 3) := by decide +kernel
theorem dX7_open_25 : decode cX7_open 25 = .ok (.aload_n 0, 1) := by decide +kernel
theorem dX7_open_26 : decode cX7_open 26 = .ok (.iconst 0, 1) := by decide +kernel
theorem dX7_open_27 : decode cX7_open 27 = .ok (.putfield 60, 3) := by decide +kernel
theorem dX7_open_30 : decode cX7_open 30 = .ok (.aload_n 0, 1) := by decide +kernel
theorem dX7_open_31 : decode cX7_open 31 = .ok (.getfield 15, 3) := by decide +kernel
theorem dX7_open_34 : decode cX7_open 34 = .ok (.iconst 0, 1) := by decide +kernel
theorem dX7_open_35 : decode cX7_open 35 = .ok (.invokestatic 63, 3) := by decide +kernel
theorem dX7_open_38 : decode cX7_open 38 = .ok (.aload_n 0, 1) := by decide +kernel
theorem dX7_open_39 : decode cX7_open 39 = .ok (.getfield 28, 3) := by decide +kernel
theorem dX7_open_42 : decode cX7_open 42 = .ok (.iconst 0, 1) := by decide +kernel
theorem dX7_open_43 : decode cX7_open 43 = .ok (.invokestatic 63, 3) := by decide +kernel
theorem dX7_open_46 : decode cX7_open 46 = .ok (.iconst 0, 1) := by decide +kernel
theorem dX7_open_47 : decode cX7_open 47 = .ok (.istore_n 2, 1) := by decide +kernel
theorem dX7_open_48 : decode cX7_open 48 = .ok (.iload_n 2, 1) := by decide +kernel
theorem dX7_open_49 : decode cX7_open 49 = .ok (.bipush 8, 2) := by decide +kernel
theorem dX7_open_51 : decode cX7_open 51 = .ok (.if_icmp .ge 18, 3) := by decide +kernel
theorem dX7_open_54 : decode cX7_open 54 = .ok (.aload_n 0, 1) := by decide +kernel
theorem dX7_open_55 : decode cX7_open 55 = .ok (.getfield 36, 3) := by decide +kernel
theorem dX7_open_58 : decode cX7_open 58 = .ok (.iload_n 2, 1) := by decide +kernel
theorem dX7_open_59 : decode cX7_open 59 = .ok (.aaload, 1) := by decide +kernel
theorem dX7_open_60 : decode cX7_open 60 = .ok (.invokevirtual 69, 3) := by decide +kernel
theorem dX7_open_63 : decode cX7_open 63 = .ok (.iinc 2 1, 3) := by decide +kernel
theorem dX7_open_66 : decode cX7_open 66 = .ok (.goto (-18), 3) := by decide +kernel
theorem dX7_open_69 : decode cX7_open 69 = .ok (.iconst 0, 1) := by decide +kernel
theorem dX7_open_70 : decode cX7_open 70 = .ok (.istore_n 2, 1) := by decide +kernel
theorem dX7_open_71 : decode cX7_open 71 = .ok (.iload_n 2, 1) := by decide +kernel
theorem dX7_open_72 : decode cX7_open 72 = .ok (.bipush 60, 2) := by decide +kernel
theorem dX7_open_74 : decode cX7_open 74 = .ok (.if_icmp .gt 21, 3) := by decide +kernel
theorem dX7_open_77 : decode cX7_open 77 = .ok (.aload_n 0, 1) := by decide +kernel
theorem dX7_open_78 : decode cX7_open 78 = .ok (.getfield 25, 3) := by decide +kernel
theorem dX7_open_81 : decode cX7_open 81 = .ok (.iload_n 2, 1) := by decide +kernel
theorem dX7_open_82 : decode cX7_open 82 = .ok (.aload_n 1, 1) := by decide +kernel
theorem dX7_open_83 : decode cX7_open 83 = .ok (.iload_n 2, 1) := by decide +kernel
theorem dX7_open_84 : decode cX7_open 84 = .ok (.iconst 3, 1) := by decide +kernel
theorem dX7_open_85 : decode cX7_open 85 = .ok (.invokevirtual 72, 3) := by decide +kernel
theorem dX7_open_88 : decode cX7_open 88 = .ok (.iastore, 1) := by decide +kernel
theorem dX7_open_89 : decode cX7_open 89 = .ok (.iinc 2 1, 3) := by decide +kernel
theorem dX7_open_92 : decode cX7_open 92 = .ok (.goto (-21), 3) := by decide +kernel
theorem dX7_open_95 : decode cX7_open 95 = .ok (.iconst 0, 1) := by decide +kernel
theorem dX7_open_96 : decode cX7_open 96 = .ok (.istore_n 2, 1) := by decide +kernel
theorem dX7_open_97 : decode cX7_open 97 = .ok (.iload_n 2, 1) := by decide +kernel
theorem dX7_open_98 : decode cX7_open 98 = .ok (.bipush 12, 2) := by decide +kernel
theorem dX7_open_100 : decode cX7_open 100 = .ok (.if_icmp .gt 51, 3) := by decide +kernel
theorem dX7_open_103 : decode cX7_open 103 = .ok (.aload_n 0, 1) := by decide +kernel
theorem dX7_open_104 : decode cX7_open 104 = .ok (.getfield 42, 3) := by decide +kernel
theorem dX7_open_107 : decode cX7_open 107 = .ok (.iload_n 2, 1) := by decide +kernel
theorem dX7_open_108 : decode cX7_open 108 = .ok (.aaload, 1) := by decide +kernel
theorem dX7_open_109 : decode cX7_open 109 = .ok (.aload_n 1, 1) := by decide +kernel
theorem dX7_open_110 : decode cX7_open 110 = .ok (.iload_n 2, 1) := by decide +kernel
theorem dX7_open_111 : decode cX7_open 111 = .ok (.iconst 0, 1) := by decide +kernel
theorem dX7_open_112 : decode cX7_open 112 = .ok (.invokevirtual 78, 3) := by decide +kernel
theorem dX7_open_115 : decode cX7_open 115 = .ok (.aload_n 1, 1) := by decide +kernel
theorem dX7_open_116 : decode cX7_open 116 = .ok (.iload_n 2, 1) := by decide +kernel
theorem dX7_open_117 : decode cX7_open 117 = .ok (.iconst 1, 1) := by decide +kernel
theorem dX7_open_118 : decode cX7_open 118 = .ok (.invokevirtual 78, 3) := by decide +kernel
theorem dX7_open_121 : decode cX7_open 121 = .ok (.aload_n 1, 1) := by decide +kernel
theorem dX7_open_122 : decode cX7_open 122 = .ok (.iload_n 2, 1) := by decide +kernel
theorem dX7_open_123 : decode cX7_open 123 = .ok (.iconst 2, 1) := by decide +kernel
theorem dX7_open_124 : decode cX7_open 124 = .ok (.invokevirtual 78, 3) := by decide +kernel
theorem dX7_open_127 : decode cX7_open 127 = .ok (.invokevirtual 81, 3) := by decide +kernel
theorem dX7_open_130 : decode cX7_open 130 = .ok (.aload_n 0, 1) := by decide +kernel
theorem dX7_open_131 : decode cX7_open 131 = .ok (.getfield 42, 3) := by decide +kernel
theorem dX7_open_134 : decode cX7_open 134 = .ok (.iload_n 2, 1) := by decide +kernel
theorem dX7_open_135 : decode cX7_open 135 = .ok (.aaload, 1) := by decide +kernel
theorem dX7_open_136 : decode cX7_open 136 = .ok (.aload_n 1, 1) := by decide +kernel
theorem dX7_open_137 : decode cX7_open 137 = .ok (.iload_n 2, 1) := by decide +kernel
theorem dX7_open_138 : decode cX7_open 138 = .ok (.iconst 3, 1) := by decide +kernel
theorem dX7_open_139 : decode cX7_open 139 = .ok (.invokevirtual 78, 3) := by decide +kernel
theorem dX7_open_142 : decode cX7_open 142 = .ok (.putfield 85, 3) := by decide +kernel
theorem dX7_open_145 : decode cX7_open 145 = .ok (.iinc 2 1, 3) := by decide +kernel
theorem dX7_open_148 : decode cX7_open 148 = .ok (.goto (-51), 3) := by decide +kernel
theorem dX7_open_151 : decode cX7_open 151 = .ok (.iconst 0, 1) := by decide +kernel
theorem dX7_open_152 : decode cX7_open 152 = .ok (.istore_n 2, 1) := by decide +kernel
theorem dX7_open_153 : decode cX7_open 153 = .ok (.iload_n 2, 1) := by decide +kernel
theorem dX7_open_154 : decode cX7_open 154 = .ok (.bipush 20, 2) := by decide +kernel
theorem dX7_open_156 : decode cX7_open 156 = .ok (.if_icmp .gt 15, 3) := by decide +kernel
theorem dX7_open_159 : decode cX7_open 159 = .ok (.aload_n 0, 1) := by decide +kernel
theorem dX7_open_160 : decode cX7_open 160 = .ok (.aload_n 1, 1) := by decide +kernel
theorem dX7_open_161 : decode cX7_open 161 = .ok (.iload_n 2, 1) := by decide +kernel
theorem dX7_open_162 : decode cX7_open 162 = .ok (.invokevirtual 88, 3) := by decide +kernel
theorem dX7_open_165 : decode cX7_open 165 = .ok (.iinc 2 1, 3) := by decide +kernel
theorem dX7_open_168 : decode cX7_open 168 = .ok (.goto (-15), 3) := by decide +kernel
theorem dX7_open_171 : decode cX7_open 171 = .ok (.return_, 1) := by decide +kernel
theorem dX7_shutBoxes_0 : decode cX7_shutBoxes 0 = .ok (.aload_n 0, 1) := by decide +kernel
theorem dX7_shutBoxes_1 : decode cX7_shutBoxes 1 = .ok (.getfield 31, 3) := by decide +kernel
theorem dX7_shutBoxes_4 : decode cX7_shutBoxes 4 = .ok (.iload_n 2, 1) := by decide +kernel
theorem dX7_shutBoxes_5 : decode cX7_shutBoxes 5 = .ok (.iconst 0, 1) := by decide +kernel
theorem dX7_shutBoxes_6 : decode cX7_shutBoxes 6 = .ok (.iastore, 1) := by decide +kernel
theorem dX7_shutBoxes_7 : decode cX7_shutBoxes 7 = .ok (.aload_n 1, 1) := by decide +kernel
theorem dX7_shutBoxes_8 : decode cX7_shutBoxes 8 = .ok (.iload_n 2, 1) := by decide +kernel
theorem dX7_shutBoxes_9 : decode cX7_shutBoxes 9 = .ok (.invokevirtual 92, 3) := by decide +kernel
theorem dX7_shutBoxes_12 : decode cX7_shutBoxes 12 = .ok (.istore_n 3, 1) := by decide +kernel
theorem dX7_shutBoxes_13 : decode cX7_shutBoxes 13 = .ok (.iconst 0, 1) := by decide +kernel
theorem dX7_shutBoxes_14 : decode cX7_shutBoxes 14 = .ok (.istore 4, 2) := by decide +kernel
theorem dX7_shutBoxes_16 : decode cX7_shutBoxes 16 = .ok (.iload 4, 2) := by decide +kernel
theorem dX7_shutBoxes_18 : decode cX7_shutBoxes 18 = .ok (.iload_n 3, 1) := by decide +kernel
theorem dX7_shutBoxes_19 : decode cX7_shutBoxes 19 = .ok (.if_icmp .ge 33, 3) := by decide +kernel
theorem dX7_shutBoxes_22 : decode cX7_shutBoxes 22 = .ok (.aload_n 0, 1) := by decide +kernel
theorem dX7_shutBoxes_23 : decode cX7_shutBoxes 23 = .ok (.iload_n 2, 1) := by decide +kernel
theorem dX7_shutBoxes_24 : decode cX7_shutBoxes 24 = .ok (.iload 4, 2) := by decide +kernel
theorem dX7_shutBoxes_26 : decode cX7_shutBoxes 26 = .ok (.aload_n 1, 1) := by decide +kernel
theorem dX7_shutBoxes_27 : decode cX7_shutBoxes 27 = .ok (.iload_n 2, 1) := by decide +kernel
theorem dX7_shutBoxes_28 : decode cX7_shutBoxes 28 = .ok (.iload 4, 2) := by decide +kernel
theorem dX7_shutBoxes_30 : decode cX7_shutBoxes 30 = .ok (.iconst 4, 1) := by decide +kernel
theorem dX7_shutBoxes_31 : decode cX7_shutBoxes 31 = .ok (.invokevirtual 96, 3) := by decide +kernel
theorem dX7_shutBoxes_34 : decode cX7_shutBoxes 34 = .ok (.iconst 1, 1) := by decide +kernel
theorem dX7_shutBoxes_35 : decode cX7_shutBoxes 35 = .ok (.if_icmp .ne 7, 3) := by decide +kernel
theorem dX7_shutBoxes_38 : decode cX7_shutBoxes 38 = .ok (.iconst 1, 1) := by decide +kernel
theorem dX7_shutBoxes_39 : decode cX7_shutBoxes 39 = .ok (.goto 4, 3) := by decide +kernel
theorem dX7_shutBoxes_42 : decode cX7_shutBoxes 42 = .ok (.iconst 0, 1) := by decide +kernel
theorem dX7_shutBoxes_43 : decode cX7_shutBoxes 43 = .ok (.invokevirtual 100, 3) := by decide +kernel
theorem dX7_shutBoxes_46 : decode cX7_shutBoxes 46 = .ok (.iinc 4 1, 3) := by decide +kernel
theorem dX7_shutBoxes_49 : decode cX7_shutBoxes 49 = .ok (.goto (-33), 3) := by decide +kernel
theorem dX7_shutBoxes_52 : decode cX7_shutBoxes 52 = .ok (.return_, 1) := by decide +kernel
theorem dX7_shutBox_0 : decode cX7_shutBox 0 = .ok (.iconst 1, 1) := by decide +kernel
theorem dX7_shutBox_1 : decode cX7_shutBox 1 = .ok (.iload_n 2, 1) := by decide +kernel
theorem dX7_shutBox_2 : decode cX7_shutBox 2 = .ok (.ishl, 1) := by decide +kernel
theorem dX7_shutBox_3 : decode cX7_shutBox 3 = .ok (.istore 4, 2) := by decide +kernel
theorem dX7_shutBox_5 : decode cX7_shutBox 5 = .ok (.aload_n 0, 1) := by decide +kernel
theorem dX7_shutBox_6 : decode cX7_shutBox 6 = .ok (.getfield 31, 3) := by decide +kernel
theorem dX7_shutBox_9 : decode cX7_shutBox 9 = .ok (.iload_n 1, 1) := by decide +kernel
theorem dX7_shutBox_10 : decode cX7_shutBox 10 = .ok (.iload_n 3, 1) := by decide +kernel
theorem dX7_shutBox_11 : decode cX7_shutBox 11 = .ok (.ifCond .eq 15, 3) := by decide +kernel
theorem dX7_shutBox_14 : decode cX7_shutBox 14 = .ok (.aload_n 0, 1) := by decide +kernel
theorem dX7_shutBox_15 : decode cX7_shutBox 15 = .ok (.getfield 31, 3) := by decide +kernel
theorem dX7_shutBox_18 : decode cX7_shutBox 18 = .ok (.iload_n 1, 1) := by decide +kernel
theorem dX7_shutBox_19 : decode cX7_shutBox 19 = .ok (.iaload, 1) := by decide +kernel
theorem dX7_shutBox_20 : decode cX7_shutBox 20 = .ok (.iload 4, 2) := by decide +kernel
theorem dX7_shutBox_22 : decode cX7_shutBox 22 = .ok (.ior, 1) := by decide +kernel
theorem dX7_shutBox_23 : decode cX7_shutBox 23 = .ok (.goto 14, 3) := by decide +kernel
theorem dX7_shutBox_26 : decode cX7_shutBox 26 = .ok (.aload_n 0, 1) := by decide +kernel
theorem dX7_shutBox_27 : decode cX7_shutBox 27 = .ok (.getfield 31, 3) := by decide +kernel
theorem dX7_shutBox_30 : decode cX7_shutBox 30 = .ok (.iload_n 1, 1) := by decide +kernel
theorem dX7_shutBox_31 : decode cX7_shutBox 31 = .ok (.iaload, 1) := by decide +kernel
theorem dX7_shutBox_32 : decode cX7_shutBox 32 = .ok (.iload 4, 2) := by decide +kernel
theorem dX7_shutBox_34 : decode cX7_shutBox 34 = .ok (.iconst (-1), 1) := by decide +kernel
theorem dX7_shutBox_35 : decode cX7_shutBox 35 = .ok (.ixor, 1) := by decide +kernel
theorem dX7_shutBox_36 : decode cX7_shutBox 36 = .ok (.iand, 1) := by decide +kernel
theorem dX7_shutBox_37 : decode cX7_shutBox 37 = .ok (.iastore, 1) := by decide +kernel
theorem dX7_shutBox_38 : decode cX7_shutBox 38 = .ok (.return_, 1) := by decide +kernel
theorem dX7_copyFrom_0 : decode cX7_copyFrom 0 = .ok (.aload_n 0, 1) := by decide +kernel
theorem dX7_copyFrom_1 : decode cX7_copyFrom 1 = .ok (.aload_n 1, 1) := by decide +kernel
theorem dX7_copyFrom_2 : decode cX7_copyFrom 2 = .ok (.getfield 48, 3) := by decide +kernel
theorem dX7_copyFrom_5 : decode cX7_copyFrom 5 = .ok (.putfield 48, 3) := by decide +kernel
theorem dX7_copyFrom_8 : decode cX7_copyFrom 8 = .ok (.aload_n 0, 1) := by decide +kernel
theorem dX7_copyFrom_9 : decode cX7_copyFrom 9 = .ok (.aload_n 1, 1) := by decide +kernel
theorem dX7_copyFrom_10 : decode cX7_copyFrom 10 = .ok (.getfield 9, 3) := by decide +kernel
theorem dX7_copyFrom_13 : decode cX7_copyFrom 13 = .ok (.putfield 9, 3) := by decide +kernel
theorem dX7_copyFrom_16 : decode cX7_copyFrom 16 = .ok (.aload_n 0, 1) := by decide +kernel
theorem dX7_copyFrom_17 : decode cX7_copyFrom 17 = .ok (.aload_n 1, 1) := by decide +kernel
theorem dX7_copyFrom_18 : decode cX7_copyFrom 18 = .ok (.getfield 51, 3) := by decide +kernel
theorem dX7_copyFrom_21 : decode cX7_copyFrom 21 = .ok (.putfield 51, 3) := by decide +kernel
theorem dX7_copyFrom_24 : decode cX7_copyFrom 24 = .ok (.aload_n 0, 1) := by decide +kernel
theorem dX7_copyFrom_25 : decode cX7_copyFrom 25 = .ok (.aload_n 1, 1) := by decide +kernel
theorem dX7_copyFrom_26 : decode cX7_copyFrom 26 = .ok (.getfield 54, 3) := by decide +kernel
theorem dX7_copyFrom_29 : decode cX7_copyFrom 29 = .ok (.putfield 54, 3) := by decide +kernel
theorem dX7_copyFrom_32 : decode cX7_copyFrom 32 = .ok (.aload_n 0, 1) := by decide +kernel
theorem dX7_copyFrom_33 : decode cX7_copyFrom 33 = .ok (.aload_n 1, 1) := by decide +kernel
theorem dX7_copyFrom_34 : decode cX7_copyFrom 34 = .ok (.getfield 57, 3) := by decide +kernel
theorem dX7_copyFrom_37 : decode cX7_copyFrom 37 = .ok (.putfield 57, 3) := by decide +kernel
theorem dX7_copyFrom_40 : decode cX7_copyFrom 40 = .ok (.aload_n 0, 1) := by decide +kernel
theorem dX7_copyFrom_41 : decode cX7_copyFrom 41 = .ok (.aload_n 1, 1) := by decide +kernel
theorem dX7_copyFrom_42 : decode cX7_copyFrom 42 = .ok (.getfield 60, 3) := by decide +kernel
theorem dX7_copyFrom_45 : decode cX7_copyFrom 45 = .ok (.putfield 60, 3) := by decide +kernel
theorem dX7_copyFrom_48 : decode cX7_copyFrom 48 = .ok (.aload_n 1, 1) := by decide +kernel
theorem dX7_copyFrom_49 : decode cX7_copyFrom 49 = .ok (.getfield 15, 3) := by decide +kernel
theorem dX7_copyFrom_52 : decode cX7_copyFrom 52 = .ok (.iconst 0, 1) := by decide +kernel
theorem dX7_copyFrom_53 : decode cX7_copyFrom 53 = .ok (.aload_n 0, 1) := by decide +kernel
theorem dX7_copyFrom_54 : decode cX7_copyFrom 54 = .ok (.getfield 15, 3) := by decide +kernel
theorem dX7_copyFrom_57 : decode cX7_copyFrom 57 = .ok (.iconst 0, 1) := by decide +kernel
theorem dX7_copyFrom_58 : decode cX7_copyFrom 58 = .ok (.bipush 64, 2) := by decide +kernel
theorem dX7_copyFrom_60 : decode cX7_copyFrom 60 = .ok (.invokestatic 104, 3) := by decide +kernel
theorem dX7_copyFrom_63 : decode cX7_copyFrom 63 = .ok (.aload_n 1, 1) := by decide +kernel
theorem dX7_copyFrom_64 : decode cX7_copyFrom 64 = .ok (.getfield 19, 3) := by decide +kernel
theorem dX7_copyFrom_67 : decode cX7_copyFrom 67 = .ok (.iconst 0, 1) := by decide +kernel
theorem dX7_copyFrom_68 : decode cX7_copyFrom 68 = .ok (.aload_n 0, 1) := by decide +kernel
theorem dX7_copyFrom_69 : decode cX7_copyFrom 69 = .ok (.getfield 19, 3) := by decide +kernel
theorem dX7_copyFrom_72 : decode cX7_copyFrom 72 = .ok (.iconst 0, 1) := by decide +kernel
theorem dX7_copyFrom_73 : decode cX7_copyFrom 73 = .ok (.bipush 64, 2) := by decide +kernel
theorem dX7_copyFrom_75 : decode cX7_copyFrom 75 = .ok (.invokestatic 104, 3) := by decide +kernel
theorem dX7_copyFrom_78 : decode cX7_copyFrom 78 = .ok (.aload_n 1, 1) := by decide +kernel
theorem dX7_copyFrom_79 : decode cX7_copyFrom 79 = .ok (.getfield 22, 3) := by decide +kernel
theorem dX7_copyFrom_82 : decode cX7_copyFrom 82 = .ok (.iconst 0, 1) := by decide +kernel
theorem dX7_copyFrom_83 : decode cX7_copyFrom 83 = .ok (.aload_n 0, 1) := by decide +kernel
theorem dX7_copyFrom_84 : decode cX7_copyFrom 84 = .ok (.getfield 22, 3) := by decide +kernel
theorem dX7_copyFrom_87 : decode cX7_copyFrom 87 = .ok (.iconst 0, 1) := by decide +kernel
theorem dX7_copyFrom_88 : decode cX7_copyFrom 88 = .ok (.bipush 18, 2) := by decide +kernel
theorem dX7_copyFrom_90 : decode cX7_copyFrom 90 = .ok (.invokestatic 104, 3) := by decide +kernel
theorem dX7_copyFrom_93 : decode cX7_copyFrom 93 = .ok (.aload_n 1, 1) := by decide +kernel
theorem dX7_copyFrom_94 : decode cX7_copyFrom 94 = .ok (.getfield 25, 3) := by decide +kernel
theorem dX7_copyFrom_97 : decode cX7_copyFrom 97 = .ok (.iconst 0, 1) := by decide +kernel
theorem dX7_copyFrom_98 : decode cX7_copyFrom 98 = .ok (.aload_n 0, 1) := by decide +kernel
theorem dX7_copyFrom_99 : decode cX7_copyFrom 99 = .ok (.getfield 25, 3) := by decide +kernel
theorem dX7_copyFrom_102 : decode cX7_copyFrom 102 = .ok (.iconst 0, 1) := by decide +kernel
theorem dX7_copyFrom_103 : decode cX7_copyFrom 103 = .ok (.bipush 61, 2) := by decide +kernel
theorem dX7_copyFrom_105 : decode cX7_copyFrom 105 = .ok (.invokestatic 104, 3) := by decide +kernel
theorem dX7_copyFrom_108 : decode cX7_copyFrom 108 = .ok (.aload_n 1, 1) := by decide +kernel
theorem dX7_copyFrom_109 : decode cX7_copyFrom 109 = .ok (.getfield 28, 3) := by decide +kernel
theorem dX7_copyFrom_112 : decode cX7_copyFrom 112 = .ok (.iconst 0, 1) := by decide +kernel
theorem dX7_copyFrom_113 : decode cX7_copyFrom 113 = .ok (.aload_n 0, 1) := by decide +kernel
theorem dX7_copyFrom_114 : decode cX7_copyFrom 114 = .ok (.getfield 28, 3) := by decide +kernel
theorem dX7_copyFrom_117 : decode cX7_copyFrom 117 = .ok (.iconst 0, 1) := by decide +kernel
theorem dX7_copyFrom_118 : decode cX7_copyFrom 118 = .ok (.bipush 61, 2) := by decide +kernel
theorem dX7_copyFrom_120 : decode cX7_copyFrom 120 = .ok (.invokestatic 104, 3) := by decide +kernel
theorem dX7_copyFrom_123 : decode cX7_copyFrom 123 = .ok (.aload_n 1, 1) := by decide +kernel
theorem dX7_copyFrom_124 : decode cX7_copyFrom 124 = .ok (.getfield 31, 3) := by decide +kernel
theorem dX7_copyFrom_127 : decode cX7_copyFrom 127 = .ok (.iconst 0, 1) := by decide +kernel
theorem dX7_copyFrom_128 : decode cX7_copyFrom 128 = .ok (.aload_n 0, 1) := by decide +kernel
theorem dX7_copyFrom_129 : decode cX7_copyFrom 129 = .ok (.getfield 31, 3) := by decide +kernel
theorem dX7_copyFrom_132 : decode cX7_copyFrom 132 = .ok (.iconst 0, 1) := by decide +kernel
theorem dX7_copyFrom_133 : decode cX7_copyFrom 133 = .ok (.bipush 21, 2) := by decide +kernel
theorem dX7_copyFrom_135 : decode cX7_copyFrom 135 = .ok (.invokestatic 104, 3) := by decide +kernel
theorem dX7_copyFrom_138 : decode cX7_copyFrom 138 = .ok (.iconst 0, 1) := by decide +kernel
theorem dX7_copyFrom_139 : decode cX7_copyFrom 139 = .ok (.istore_n 2, 1) := by decide +kernel
theorem dX7_copyFrom_140 : decode cX7_copyFrom 140 = .ok (.iload_n 2, 1) := by decide +kernel
theorem dX7_copyFrom_141 : decode cX7_copyFrom 141 = .ok (.bipush 8, 2) := by decide +kernel
theorem dX7_copyFrom_143 : decode cX7_copyFrom 143 = .ok (.if_icmp .ge 24, 3) := by decide +kernel
theorem dX7_copyFrom_146 : decode cX7_copyFrom 146 = .ok (.aload_n 0, 1) := by decide +kernel
theorem dX7_copyFrom_147 : decode cX7_copyFrom 147 = .ok (.getfield 36, 3) := by decide +kernel
theorem dX7_copyFrom_150 : decode cX7_copyFrom 150 = .ok (.iload_n 2, 1) := by decide +kernel
theorem dX7_copyFrom_151 : decode cX7_copyFrom 151 = .ok (.aaload, 1) := by decide +kernel
theorem dX7_copyFrom_152 : decode cX7_copyFrom 152 = .ok (.aload_n 1, 1) := by decide +kernel
theorem dX7_copyFrom_153 : decode cX7_copyFrom 153 = .ok (.getfield 36, 3) := by decide +kernel
theorem dX7_copyFrom_156 : decode cX7_copyFrom 156 = .ok (.iload_n 2, 1) := by decide +kernel
theorem dX7_copyFrom_157 : decode cX7_copyFrom 157 = .ok (.aaload, 1) := by decide +kernel
theorem dX7_copyFrom_158 : decode cX7_copyFrom 158 = .ok (.invokevirtual 110, 3) := by decide +kernel
theorem dX7_copyFrom_161 : decode cX7_copyFrom 161 = .ok (.iinc 2 1, 3) := by decide +kernel
theorem dX7_copyFrom_164 : decode cX7_copyFrom 164 = .ok (.goto (-24), 3) := by decide +kernel
theorem dX7_copyFrom_167 : decode cX7_copyFrom 167 = .ok (.iconst 0, 1) := by decide +kernel
theorem dX7_copyFrom_168 : decode cX7_copyFrom 168 = .ok (.istore_n 2, 1) := by decide +kernel
theorem dX7_copyFrom_169 : decode cX7_copyFrom 169 = .ok (.iload_n 2, 1) := by decide +kernel
theorem dX7_copyFrom_170 : decode cX7_copyFrom 170 = .ok (.bipush 12, 2) := by decide +kernel
theorem dX7_copyFrom_172 : decode cX7_copyFrom 172 = .ok (.if_icmp .gt 24, 3) := by decide +kernel
theorem dX7_copyFrom_175 : decode cX7_copyFrom 175 = .ok (.aload_n 0, 1) := by decide +kernel
theorem dX7_copyFrom_176 : decode cX7_copyFrom 176 = .ok (.getfield 42, 3) := by decide +kernel
theorem dX7_copyFrom_179 : decode cX7_copyFrom 179 = .ok (.iload_n 2, 1) := by decide +kernel
theorem dX7_copyFrom_180 : decode cX7_copyFrom 180 = .ok (.aaload, 1) := by decide +kernel
theorem dX7_copyFrom_181 : decode cX7_copyFrom 181 = .ok (.aload_n 1, 1) := by decide +kernel
theorem dX7_copyFrom_182 : decode cX7_copyFrom 182 = .ok (.getfield 42, 3) := by decide +kernel
theorem dX7_copyFrom_185 : decode cX7_copyFrom 185 = .ok (.iload_n 2, 1) := by decide +kernel
theorem dX7_copyFrom_186 : decode cX7_copyFrom 186 = .ok (.aaload, 1) := by decide +kernel
theorem dX7_copyFrom_187 : decode cX7_copyFrom 187 = .ok (.invokevirtual 114, 3) := by decide +kernel
theorem dX7_copyFrom_190 : decode cX7_copyFrom 190 = .ok (.iinc 2 1, 3) := by decide +kernel
theorem dX7_copyFrom_193 : decode cX7_copyFrom 193 = .ok (.goto (-24), 3) := by decide +kernel
theorem dX7_copyFrom_196 : decode cX7_copyFrom 196 = .ok (.return_, 1) := by decide +kernel
theorem dX7_runningSlots_0 : decode cX7_runningSlots 0 = .ok (.iconst 0, 1) := by decide +kernel
theorem dX7_runningSlots_1 : decode cX7_runningSlots 1 = .ok (.istore_n 1, 1) := by decide +kernel
theorem dX7_runningSlots_2 : decode cX7_runningSlots 2 = .ok (.iconst 0, 1) := by decide +kernel
theorem dX7_runningSlots_3 : decode cX7_runningSlots 3 = .ok (.istore_n 2, 1) := by decide +kernel
theorem dX7_runningSlots_4 : decode cX7_runningSlots 4 = .ok (.iload_n 2, 1) := by decide +kernel
theorem dX7_runningSlots_5 : decode cX7_runningSlots 5 = .ok (.bipush 8, 2) := by decide +kernel
theorem dX7_runningSlots_7 : decode cX7_runningSlots 7 = .ok (.if_icmp .ge 24, 3) := by decide +kernel
theorem dX7_runningSlots_10 : decode cX7_runningSlots 10 = .ok (.aload_n 0, 1) := by decide +kernel
theorem dX7_runningSlots_11 : decode cX7_runningSlots 11 = .ok (.getfield 36, 3) := by decide +kernel
theorem dX7_runningSlots_14 : decode cX7_runningSlots 14 = .ok (.iload_n 2, 1) := by decide +kernel
theorem dX7_runningSlots_15 : decode cX7_runningSlots 15 = .ok (.aaload, 1) := by decide +kernel
theorem dX7_runningSlots_16 : decode cX7_runningSlots 16 = .ok (.invokevirtual 117, 3) := by decide +kernel
theorem dX7_runningSlots_19 : decode cX7_runningSlots 19 = .ok (.ifCond .eq 6, 3) := by decide +kernel
theorem dX7_runningSlots_22 : decode cX7_runningSlots 22 = .ok (.iinc 1 1, 3) := by decide +kernel
theorem dX7_runningSlots_25 : decode cX7_runningSlots 25 = .ok (.iinc 2 1, 3) := by decide +kernel
theorem dX7_runningSlots_28 : decode cX7_runningSlots 28 = .ok (.goto (-24), 3) := by decide +kernel
theorem dX7_runningSlots_31 : decode cX7_runningSlots 31 = .ok (.iload_n 1, 1) := by decide +kernel
theorem dX7_runningSlots_32 : decode cX7_runningSlots 32 = .ok (.ireturn, 1) := by decide +kernel
theorem dX7_slotsWith_0 : decode cX7_slotsWith 0 = .ok (.iconst 0, 1) := by decide +kernel
theorem dX7_slotsWith_1 : decode cX7_slotsWith 1 = .ok (.istore_n 2, 1) := by decide +kernel
theorem dX7_slotsWith_2 : decode cX7_slotsWith 2 = .ok (.iconst 0, 1) := by decide +kernel
theorem dX7_slotsWith_3 : decode cX7_slotsWith 3 = .ok (.istore_n 3, 1) := by decide +kernel
theorem dX7_slotsWith_4 : decode cX7_slotsWith 4 = .ok (.iload_n 3, 1) := by decide +kernel
theorem dX7_slotsWith_5 : decode cX7_slotsWith 5 = .ok (.bipush 8, 2) := by decide +kernel
theorem dX7_slotsWith_7 : decode cX7_slotsWith 7 = .ok (.if_icmp .ge 37, 3) := by decide +kernel
theorem dX7_slotsWith_10 : decode cX7_slotsWith 10 = .ok (.aload_n 0, 1) := by decide +kernel
theorem dX7_slotsWith_11 : decode cX7_slotsWith 11 = .ok (.getfield 36, 3) := by decide +kernel
theorem dX7_slotsWith_14 : decode cX7_slotsWith 14 = .ok (.iload_n 3, 1) := by decide +kernel
theorem dX7_slotsWith_15 : decode cX7_slotsWith 15 = .ok (.aaload, 1) := by decide +kernel
theorem dX7_slotsWith_16 : decode cX7_slotsWith 16 = .ok (.invokevirtual 117, 3) := by decide +kernel
theorem dX7_slotsWith_19 : decode cX7_slotsWith 19 = .ok (.ifCond .eq 19, 3) := by decide +kernel
theorem dX7_slotsWith_22 : decode cX7_slotsWith 22 = .ok (.aload_n 0, 1) := by decide +kernel
theorem dX7_slotsWith_23 : decode cX7_slotsWith 23 = .ok (.getfield 36, 3) := by decide +kernel
theorem dX7_slotsWith_26 : decode cX7_slotsWith 26 = .ok (.iload_n 3, 1) := by decide +kernel
theorem dX7_slotsWith_27 : decode cX7_slotsWith 27 = .ok (.aaload, 1) := by decide +kernel
theorem dX7_slotsWith_28 : decode cX7_slotsWith 28 = .ok (.getfield 121, 3) := by decide +kernel
theorem dX7_slotsWith_31 : decode cX7_slotsWith 31 = .ok (.iload_n 1, 1) := by decide +kernel
theorem dX7_slotsWith_32 : decode cX7_slotsWith 32 = .ok (.if_icmp .ne 6, 3) := by decide +kernel
theorem dX7_slotsWith_35 : decode cX7_slotsWith 35 = .ok (.iinc 2 1, 3) := by decide +kernel
theorem dX7_slotsWith_38 : decode cX7_slotsWith 38 = .ok (.iinc 3 1, 3) := by decide +kernel
theorem dX7_slotsWith_41 : decode cX7_slotsWith 41 = .ok (.goto (-37), 3) := by decide +kernel
theorem dX7_slotsWith_44 : decode cX7_slotsWith 44 = .ok (.iload_n 2, 1) := by decide +kernel
theorem dX7_slotsWith_45 : decode cX7_slotsWith 45 = .ok (.ireturn, 1) := by decide +kernel
theorem dX7_lowestFreeSlot_0 : decode cX7_lowestFreeSlot 0 = .ok (.iconst 0, 1) := by decide +kernel
theorem dX7_lowestFreeSlot_1 : decode cX7_lowestFreeSlot 1 = .ok (.istore_n 1, 1) := by decide +kernel
theorem dX7_lowestFreeSlot_2 : decode cX7_lowestFreeSlot 2 = .ok (.iload_n 1, 1) := by decide +kernel
theorem dX7_lowestFreeSlot_3 : decode cX7_lowestFreeSlot 3 = .ok (.bipush 8, 2) := by decide +kernel
theorem dX7_lowestFreeSlot_5 : decode cX7_lowestFreeSlot 5 = .ok (.if_icmp .ge 23, 3) := by decide +kernel
theorem dX7_lowestFreeSlot_8 : decode cX7_lowestFreeSlot 8 = .ok (.aload_n 0, 1) := by decide +kernel
theorem dX7_lowestFreeSlot_9 : decode cX7_lowestFreeSlot 9 = .ok (.getfield 36, 3) := by decide +kernel
theorem dX7_lowestFreeSlot_12 : decode cX7_lowestFreeSlot 12 = .ok (.iload_n 1, 1) := by decide +kernel
theorem dX7_lowestFreeSlot_13 : decode cX7_lowestFreeSlot 13 = .ok (.aaload, 1) := by decide +kernel
theorem dX7_lowestFreeSlot_14 : decode cX7_lowestFreeSlot 14 = .ok (.invokevirtual 117, 3) := by decide +kernel
theorem dX7_lowestFreeSlot_17 : decode cX7_lowestFreeSlot 17 = .ok (.ifCond .ne 5, 3) := by decide +kernel
theorem dX7_lowestFreeSlot_20 : decode cX7_lowestFreeSlot 20 = .ok (.iload_n 1, 1) := by decide +kernel
theorem dX7_lowestFreeSlot_21 : decode cX7_lowestFreeSlot 21 = .ok (.ireturn, 1) := by decide +kernel
theorem dX7_lowestFreeSlot_22 : decode cX7_lowestFreeSlot 22 = .ok (.iinc 1 1, 3) := by decide +kernel
theorem dX7_lowestFreeSlot_25 : decode cX7_lowestFreeSlot 25 = .ok (.goto (-23), 3) := by decide +kernel
theorem dX7_lowestFreeSlot_28 : decode cX7_lowestFreeSlot 28 = .ok (.iconst (-1), 1) := by decide +kernel
theorem dX7_lowestFreeSlot_29 : decode cX7_lowestFreeSlot 29 = .ok (.ireturn, 1) := by decide +kernel
theorem dX7_runsSentence_0 : decode cX7_runsSentence 0 = .ok (.iconst 0, 1) := by decide +kernel
theorem dX7_runsSentence_1 : decode cX7_runsSentence 1 = .ok (.istore_n 1, 1) := by decide +kernel
theorem dX7_runsSentence_2 : decode cX7_runsSentence 2 = .ok (.iload_n 1, 1) := by decide +kernel
theorem dX7_runsSentence_3 : decode cX7_runsSentence 3 = .ok (.bipush 8, 2) := by decide +kernel
theorem dX7_runsSentence_5 : decode cX7_runsSentence 5 = .ok (.if_icmp .ge 23, 3) := by decide +kernel
theorem dX7_runsSentence_8 : decode cX7_runsSentence 8 = .ok (.aload_n 0, 1) := by decide +kernel
theorem dX7_runsSentence_9 : decode cX7_runsSentence 9 = .ok (.getfield 36, 3) := by decide +kernel
theorem dX7_runsSentence_12 : decode cX7_runsSentence 12 = .ok (.iload_n 1, 1) := by decide +kernel
theorem dX7_runsSentence_13 : decode cX7_runsSentence 13 = .ok (.aaload, 1) := by decide +kernel
theorem dX7_runsSentence_14 : decode cX7_runsSentence 14 = .ok (.getfield 124, 3) := by decide +kernel
theorem dX7_runsSentence_17 : decode cX7_runsSentence 17 = .ok (.ifCond .eq 5, 3) := by decide +kernel
theorem dX7_runsSentence_20 : decode cX7_runsSentence 20 = .ok (.iconst 1, 1) := by decide +kernel
theorem dX7_runsSentence_21 : decode cX7_runsSentence 21 = .ok (.ireturn, 1) := by decide +kernel
theorem dX7_runsSentence_22 : decode cX7_runsSentence 22 = .ok (.iinc 1 1, 3) := by decide +kernel
theorem dX7_runsSentence_25 : decode cX7_runsSentence 25 = .ok (.goto (-23), 3) := by decide +kernel
theorem dX7_runsSentence_28 : decode cX7_runsSentence 28 = .ok (.iconst 0, 1) := by decide +kernel
theorem dX7_runsSentence_29 : decode cX7_runsSentence 29 = .ok (.ireturn, 1) := by decide +kernel
theorem dX7_addNote_0 : decode cX7_addNote 0 = .ok (.aload_n 0, 1) := by decide +kernel
theorem dX7_addNote_1 : decode cX7_addNote 1 = .ok (.getfield 19, 3) := by decide +kernel
theorem dX7_addNote_4 : decode cX7_addNote 4 = .ok (.aload_n 0, 1) := by decide +kernel
theorem dX7_addNote_5 : decode cX7_addNote 5 = .ok (.getfield 51, 3) := by decide +kernel
theorem dX7_addNote_8 : decode cX7_addNote 8 = .ok (.bipush 64, 2) := by decide +kernel
theorem dX7_addNote_10 : decode cX7_addNote 10 = .ok (.irem, 1) := by decide +kernel
theorem dX7_addNote_11 : decode cX7_addNote 11 = .ok (.iload_n 1, 1) := by decide +kernel
theorem dX7_addNote_12 : decode cX7_addNote 12 = .ok (.iastore, 1) := by decide +kernel
theorem dX7_addNote_13 : decode cX7_addNote 13 = .ok (.aload_n 0, 1) := by decide +kernel
theorem dX7_addNote_14 : decode cX7_addNote 14 = .ok (.dup, 1) := by decide +kernel
theorem dX7_addNote_15 : decode cX7_addNote 15 = .ok (.getfield 51, 3) := by decide +kernel
theorem dX7_addNote_18 : decode cX7_addNote 18 = .ok (.iconst 1, 1) := by decide +kernel
theorem dX7_addNote_19 : decode cX7_addNote 19 = .ok (.iadd, 1) := by decide +kernel
theorem dX7_addNote_20 : decode cX7_addNote 20 = .ok (.putfield 51, 3) := by decide +kernel
theorem dX7_addNote_23 : decode cX7_addNote 23 = .ok (.return_, 1) := by decide +kernel
theorem dX7_addSentence_0 : decode cX7_addSentence 0 = .ok (.aload_n 0, 1) := by decide +kernel
theorem dX7_addSentence_1 : decode cX7_addSentence 1 = .ok (.getfield 60, 3) := by decide +kernel
theorem dX7_addSentence_4 : decode cX7_addSentence 4 = .ok (.bipush 6, 2) := by decide +kernel
theorem dX7_addSentence_6 : decode cX7_addSentence 6 = .ok (.if_icmp .lt 15, 3) := by decide +kernel
theorem dX7_addSentence_9 : decode cX7_addSentence 9 = .ok (.aload_n 0, 1) := by decide +kernel
theorem dX7_addSentence_10 : decode cX7_addSentence 10 = .ok (.dup, 1) := by decide +kernel
theorem dX7_addSentence_11 : decode cX7_addSentence 11 = .ok (.getfield 57, 3) := by decide +kernel
theorem dX7_addSentence_14 : decode cX7_addSentence 14 = .ok (.iconst 1, 1) := by decide +kernel
theorem dX7_addSentence_15 : decode cX7_addSentence 15 = .ok (.iadd, 1) := by decide +kernel
theorem dX7_addSentence_16 : decode cX7_addSentence 16 = .ok (.putfield 57, 3) := by decide +kernel
theorem dX7_addSentence_19 : decode cX7_addSentence 19 = .ok (.iconst 0, 1) := by decide +kernel
theorem dX7_addSentence_20 : decode cX7_addSentence 20 = .ok (.ireturn, 1) := by decide +kernel
theorem dX7_addSentence_21 : decode cX7_addSentence 21 = .ok (.aload_n 0, 1) := by decide +kernel
theorem dX7_addSentence_22 : decode cX7_addSentence 22 = .ok (.getfield 60, 3) := by decide +kernel
theorem dX7_addSentence_25 : decode cX7_addSentence 25 = .ok (.iconst 3, 1) := by decide +kernel
theorem dX7_addSentence_26 : decode cX7_addSentence 26 = .ok (.imul, 1) := by decide +kernel
theorem dX7_addSentence_27 : decode cX7_addSentence 27 = .ok (.istore 4, 2) := by decide +kernel
theorem dX7_addSentence_29 : decode cX7_addSentence 29 = .ok (.aload_n 0, 1) := by decide +kernel
theorem dX7_addSentence_30 : decode cX7_addSentence 30 = .ok (.getfield 22, 3) := by decide +kernel
theorem dX7_addSentence_33 : decode cX7_addSentence 33 = .ok (.iload 4, 2) := by decide +kernel
theorem dX7_addSentence_35 : decode cX7_addSentence 35 = .ok (.iload_n 1, 1) := by decide +kernel
theorem dX7_addSentence_36 : decode cX7_addSentence 36 = .ok (.iastore, 1) := by decide +kernel
theorem dX7_addSentence_37 : decode cX7_addSentence 37 = .ok (.aload_n 0, 1) := by decide +kernel
theorem dX7_addSentence_38 : decode cX7_addSentence 38 = .ok (.getfield 22, 3) := by decide +kernel
theorem dX7_addSentence_41 : decode cX7_addSentence 41 = .ok (.iload 4, 2) := by decide +kernel
theorem dX7_addSentence_43 : decode cX7_addSentence 43 = .ok (.iconst 1, 1) := by decide +kernel
theorem dX7_addSentence_44 : decode cX7_addSentence 44 = .ok (.iadd, 1) := by decide +kernel
theorem dX7_addSentence_45 : decode cX7_addSentence 45 = .ok (.iload_n 2, 1) := by decide +kernel
theorem dX7_addSentence_46 : decode cX7_addSentence 46 = .ok (.iastore, 1) := by decide +kernel
theorem dX7_addSentence_47 : decode cX7_addSentence 47 = .ok (.aload_n 0, 1) := by decide +kernel
theorem dX7_addSentence_48 : decode cX7_addSentence 48 = .ok (.getfield 22, 3) := by decide +kernel
theorem dX7_addSentence_51 : decode cX7_addSentence 51 = .ok (.iload 4, 2) := by decide +kernel
theorem dX7_addSentence_53 : decode cX7_addSentence 53 = .ok (.iconst 2, 1) := by decide +kernel
theorem dX7_addSentence_54 : decode cX7_addSentence 54 = .ok (.iadd, 1) := by decide +kernel
theorem dX7_addSentence_55 : decode cX7_addSentence 55 = .ok (.iload_n 3, 1) := by decide +kernel
theorem dX7_addSentence_56 : decode cX7_addSentence 56 = .ok (.iastore, 1) := by decide +kernel
theorem dX7_addSentence_57 : decode cX7_addSentence 57 = .ok (.aload_n 0, 1) := by decide +kernel
theorem dX7_addSentence_58 : decode cX7_addSentence 58 = .ok (.dup, 1) := by decide +kernel
theorem dX7_addSentence_59 : decode cX7_addSentence 59 = .ok (.getfield 60, 3) := by decide +kernel
theorem dX7_addSentence_62 : decode cX7_addSentence 62 = .ok (.iconst 1, 1) := by decide +kernel
theorem dX7_addSentence_63 : decode cX7_addSentence 63 = .ok (.iadd, 1) := by decide +kernel
theorem dX7_addSentence_64 : decode cX7_addSentence 64 = .ok (.putfield 60, 3) := by decide +kernel
theorem dX7_addSentence_67 : decode cX7_addSentence 67 = .ok (.iconst 1, 1) := by decide +kernel
theorem dX7_addSentence_68 : decode cX7_addSentence 68 = .ok (.ireturn, 1) := by decide +kernel
theorem dX7_takeSentence_0 : decode cX7_takeSentence 0 = .ok (.aload_n 0, 1) := by decide +kernel
theorem dX7_takeSentence_1 : decode cX7_takeSentence 1 = .ok (.getfield 60, 3) := by decide +kernel
theorem dX7_takeSentence_4 : decode cX7_takeSentence 4 = .ok (.ifCond .gt 4, 3) := by decide +kernel
theorem dX7_takeSentence_7 : decode cX7_takeSentence 7 = .ok (.return_, 1) := by decide +kernel
theorem dX7_takeSentence_8 : decode cX7_takeSentence 8 = .ok (.aload_n 0, 1) := by decide +kernel
theorem dX7_takeSentence_9 : decode cX7_takeSentence 9 = .ok (.getfield 22, 3) := by decide +kernel
theorem dX7_takeSentence_12 : decode cX7_takeSentence 12 = .ok (.iconst 0, 1) := by decide +kernel
theorem dX7_takeSentence_13 : decode cX7_takeSentence 13 = .ok (.aload_n 0, 1) := by decide +kernel
theorem dX7_takeSentence_14 : decode cX7_takeSentence 14 = .ok (.getfield 15, 3) := by decide +kernel
theorem dX7_takeSentence_17 : decode cX7_takeSentence 17 = .ok (.iconst 1, 1) := by decide +kernel
theorem dX7_takeSentence_18 : decode cX7_takeSentence 18 = .ok (.iconst 3, 1) := by decide +kernel
theorem dX7_takeSentence_19 : decode cX7_takeSentence 19 = .ok (.invokestatic 104, 3) := by decide +kernel
theorem dX7_takeSentence_22 : decode cX7_takeSentence 22 = .ok (.aload_n 0, 1) := by decide +kernel
theorem dX7_takeSentence_23 : decode cX7_takeSentence 23 = .ok (.dup, 1) := by decide +kernel
theorem dX7_takeSentence_24 : decode cX7_takeSentence 24 = .ok (.getfield 60, 3) := by decide +kernel
theorem dX7_takeSentence_27 : decode cX7_takeSentence 27 = .ok (.iconst 1, 1) := by decide +kernel
theorem dX7_takeSentence_28 : decode cX7_takeSentence 28 = .ok (.isub, 1) := by decide +kernel
theorem dX7_takeSentence_29 : decode cX7_takeSentence 29 = .ok (.putfield 60, 3) := by decide +kernel
theorem dX7_takeSentence_32 : decode cX7_takeSentence 32 = .ok (.aload_n 0, 1) := by decide +kernel
theorem dX7_takeSentence_33 : decode cX7_takeSentence 33 = .ok (.getfield 22, 3) := by decide +kernel
theorem dX7_takeSentence_36 : decode cX7_takeSentence 36 = .ok (.iconst 3, 1) := by decide +kernel
theorem dX7_takeSentence_37 : decode cX7_takeSentence 37 = .ok (.aload_n 0, 1) := by decide +kernel
theorem dX7_takeSentence_38 : decode cX7_takeSentence 38 = .ok (.getfield 22, 3) := by decide +kernel
theorem dX7_takeSentence_41 : decode cX7_takeSentence 41 = .ok (.iconst 0, 1) := by decide +kernel
theorem dX7_takeSentence_42 : decode cX7_takeSentence 42 = .ok (.aload_n 0, 1) := by decide +kernel
theorem dX7_takeSentence_43 : decode cX7_takeSentence 43 = .ok (.getfield 60, 3) := by decide +kernel
theorem dX7_takeSentence_46 : decode cX7_takeSentence 46 = .ok (.iconst 3, 1) := by decide +kernel
theorem dX7_takeSentence_47 : decode cX7_takeSentence 47 = .ok (.imul, 1) := by decide +kernel
theorem dX7_takeSentence_48 : decode cX7_takeSentence 48 = .ok (.invokestatic 104, 3) := by decide +kernel
theorem dX7_takeSentence_51 : decode cX7_takeSentence 51 = .ok (.return_, 1) := by decide +kernel
theorem dX7_drawLuck_0 : decode cX7_drawLuck 0 = .ok (.aload_n 0, 1) := by decide +kernel
theorem dX7_drawLuck_1 : decode cX7_drawLuck 1 = .ok (.aload_n 0, 1) := by decide +kernel
theorem dX7_drawLuck_2 : decode cX7_drawLuck 2 = .ok (.getfield 9, 3) := by decide +kernel
theorem dX7_drawLuck_5 : decode cX7_drawLuck 5 = .ok (.ldc 128, 2) := by decide +kernel
theorem dX7_drawLuck_7 : decode cX7_drawLuck 7 = .ok (.imul, 1) := by decide +kernel
theorem dX7_drawLuck_8 : decode cX7_drawLuck 8 = .ok (.sipush 12345, 3) := by decide +kernel
theorem dX7_drawLuck_11 : decode cX7_drawLuck 11 = .ok (.iadd, 1) := by decide +kernel
theorem dX7_drawLuck_12 : decode cX7_drawLuck 12 = .ok (.putfield 9, 3) := by decide +kernel
theorem dX7_drawLuck_15 : decode cX7_drawLuck 15 = .ok (.iload_n 1, 1) := by decide +kernel
theorem dX7_drawLuck_16 : decode cX7_drawLuck 16 = .ok (.ifCond .le 15, 3) := by decide +kernel
theorem dX7_drawLuck_19 : decode cX7_drawLuck 19 = .ok (.aload_n 0, 1) := by decide +kernel
theorem dX7_drawLuck_20 : decode cX7_drawLuck 20 = .ok (.getfield 9, 3) := by decide +kernel
theorem dX7_drawLuck_23 : decode cX7_drawLuck 23 = .ok (.ldc 129, 2) := by decide +kernel
theorem dX7_drawLuck_25 : decode cX7_drawLuck 25 = .ok (.iand, 1) := by decide +kernel
theorem dX7_drawLuck_26 : decode cX7_drawLuck 26 = .ok (.iload_n 1, 1) := by decide +kernel
theorem dX7_drawLuck_27 : decode cX7_drawLuck 27 = .ok (.irem, 1) := by decide +kernel
theorem dX7_drawLuck_28 : decode cX7_drawLuck 28 = .ok (.goto 4, 3) := by decide +kernel
theorem dX7_drawLuck_31 : decode cX7_drawLuck 31 = .ok (.iconst 0, 1) := by decide +kernel
theorem dX7_drawLuck_32 : decode cX7_drawLuck 32 = .ok (.ireturn, 1) := by decide +kernel
theorem dX9_init_0 : decode cX9_init 0 = .ok (.aload_n 0, 1) := by decide +kernel
theorem dX9_init_1 : decode cX9_init 1 = .ok (.invokespecial 3, 3) := by decide +kernel
theorem dX9_init_4 : decode cX9_init 4 = .ok (.aload_n 0, 1) := by decide +kernel
theorem dX9_init_5 : decode cX9_init 5 = .ok (.bipush 16, 2) := by decide +kernel
theorem dX9_init_7 : decode cX9_init 7 = .ok (.newarray .int, 2) := by decide +kernel
theorem dX9_init_9 : decode cX9_init 9 = .ok (.putfield 9, 3) := by decide +kernel
theorem dX9_init_12 : decode cX9_init 12 = .ok (.aload_n 0, 1) := by decide +kernel
theorem dX9_init_13 : decode cX9_init 13 = .ok (.aload_n 1, 1) := by decide +kernel
theorem dX9_init_14 : decode cX9_init 14 = .ok (.putfield 15, 3) := by decide +kernel
theorem dX9_init_17 : decode cX9_init 17 = .ok (.aload_n 0, 1) := by decide +kernel
theorem dX9_init_18 : decode cX9_init 18 = .ok (.aload_n 2, 1) := by decide +kernel
theorem dX9_init_19 : decode cX9_init 19 = .ok (.putfield 19, 3) := by decide +kernel
theorem dX9_init_22 : decode cX9_init 22 = .ok (.aload_n 0, 1) := by decide +kernel
theorem dX9_init_23 : decode cX9_init 23 = .ok (.aload_n 3, 1) := by decide +kernel
theorem dX9_init_24 : decode cX9_init 24 = .ok (.putfield 23, 3) := by decide +kernel
theorem dX9_init_27 : decode cX9_init 27 = .ok (.return_, 1) := by decide +kernel
theorem dX9_send_0 : decode cX9_send 0 = .ok (.aload_n 0, 1) := by decide +kernel
theorem dX9_send_1 : decode cX9_send 1 = .ok (.getfield 15, 3) := by decide +kernel
theorem dX9_send_4 : decode cX9_send 4 = .ok (.getfield 27, 3) := by decide +kernel
theorem dX9_send_7 : decode cX9_send 7 = .ok (.iload_n 1, 1) := by decide +kernel
theorem dX9_send_8 : decode cX9_send 8 = .ok (.invokevirtual 33, 3) := by decide +kernel
theorem dX9_send_11 : decode cX9_send 11 = .ok (.ifCond .eq 17, 3) := by decide +kernel
theorem dX9_send_14 : decode cX9_send 14 = .ok (.iload_n 2, 1) := by decide +kernel
theorem dX9_send_15 : decode cX9_send 15 = .ok (.invokestatic 39, 3) := by decide +kernel
theorem dX9_send_18 : decode cX9_send 18 = .ok (.ifCond .eq 10, 3) := by decide +kernel
theorem dX9_send_21 : decode cX9_send 21 = .ok (.iload_n 3, 1) := by decide +kernel
theorem dX9_send_22 : decode cX9_send 22 = .ok (.invokestatic 39, 3) := by decide +kernel
theorem dX9_send_25 : decode cX9_send 25 = .ok (.ifCond .ne 5, 3) := by decide +kernel
theorem dX9_send_28 : decode cX9_send 28 = .ok (.iconst 0, 1) := by decide +kernel
theorem dX9_send_29 : decode cX9_send 29 = .ok (.ireturn, 1) := by decide +kernel
theorem dX9_send_30 : decode cX9_send 30 = .ok (.aload_n 0, 1) := by decide +kernel
theorem dX9_send_31 : decode cX9_send 31 = .ok (.getfield 23, 3) := by decide +kernel
theorem dX9_send_34 : decode cX9_send 34 = .ok (.getfield 42, 3) := by decide +kernel
theorem dX9_send_37 : decode cX9_send 37 = .ok (.iload_n 1, 1) := by decide +kernel
theorem dX9_send_38 : decode cX9_send 38 = .ok (.aaload, 1) := by decide +kernel
theorem dX9_send_39 : decode cX9_send 39 = .ok (.iload_n 2, 1) := by decide +kernel
theorem dX9_send_40 : decode cX9_send 40 = .ok (.iload_n 3, 1) := by decide +kernel
theorem dX9_send_41 : decode cX9_send 41 = .ok (.invokevirtual 47, 3) := by decide +kernel
theorem dX9_send_44 : decode cX9_send 44 = .ok (.iconst 1, 1) := by decide +kernel
theorem dX9_send_45 : decode cX9_send 45 = .ok (.ireturn, 1) := by decide +kernel
theorem dX9_isOpen_0 : decode cX9_isOpen 0 = .ok (.aload_n 0, 1) := by decide +kernel
theorem dX9_isOpen_1 : decode cX9_isOpen 1 = .ok (.getfield 19, 3) := by decide +kernel
theorem dX9_isOpen_4 : decode cX9_isOpen 4 = .ok (.iload_n 1, 1) := by decide +kernel
theorem dX9_isOpen_5 : decode cX9_isOpen 5 = .ok (.iload_n 2, 1) := by decide +kernel
theorem dX9_isOpen_6 : decode cX9_isOpen 6 = .ok (.invokevirtual 53, 3) := by decide +kernel
theorem dX9_isOpen_9 : decode cX9_isOpen 9 = .ok (.ifCond .eq 23, 3) := by decide +kernel
theorem dX9_isOpen_12 : decode cX9_isOpen 12 = .ok (.aload_n 0, 1) := by decide +kernel
theorem dX9_isOpen_13 : decode cX9_isOpen 13 = .ok (.getfield 23, 3) := by decide +kernel
theorem dX9_isOpen_16 : decode cX9_isOpen 16 = .ok (.getfield 59, 3) := by decide +kernel
theorem dX9_isOpen_19 : decode cX9_isOpen 19 = .ok (.iload_n 1, 1) := by decide +kernel
theorem dX9_isOpen_20 : decode cX9_isOpen 20 = .ok (.iaload, 1) := by decide +kernel
theorem dX9_isOpen_21 : decode cX9_isOpen 21 = .ok (.iload_n 2, 1) := by decide +kernel
theorem dX9_isOpen_22 : decode cX9_isOpen 22 = .ok (.ishr, 1) := by decide +kernel
theorem dX9_isOpen_23 : decode cX9_isOpen 23 = .ok (.iconst 1, 1) := by decide +kernel
theorem dX9_isOpen_24 : decode cX9_isOpen 24 = .ok (.iand, 1) := by decide +kernel
theorem dX9_isOpen_25 : decode cX9_isOpen 25 = .ok (.ifCond .ne 7, 3) := by decide +kernel
theorem dX9_isOpen_28 : decode cX9_isOpen 28 = .ok (.iconst 1, 1) := by decide +kernel
theorem dX9_isOpen_29 : decode cX9_isOpen 29 = .ok (.goto 4, 3) := by decide +kernel
theorem dX9_isOpen_32 : decode cX9_isOpen 32 = .ok (.iconst 0, 1) := by decide +kernel
theorem dX9_isOpen_33 : decode cX9_isOpen 33 = .ok (.ireturn, 1) := by decide +kernel
theorem dX9_boxOf_0 : decode cX9_boxOf 0 = .ok (.aload_n 0, 1) := by decide +kernel
theorem dX9_boxOf_1 : decode cX9_boxOf 1 = .ok (.getfield 19, 3) := by decide +kernel
theorem dX9_boxOf_4 : decode cX9_boxOf 4 = .ok (.getfield 62, 3) := by decide +kernel
theorem dX9_boxOf_7 : decode cX9_boxOf 7 = .ok (.aload_n 1, 1) := by decide +kernel
theorem dX9_boxOf_8 : decode cX9_boxOf 8 = .ok (.getfield 65, 3) := by decide +kernel
theorem dX9_boxOf_11 : decode cX9_boxOf 11 = .ok (.iaload, 1) := by decide +kernel
theorem dX9_boxOf_12 : decode cX9_boxOf 12 = .ok (.istore_n 2, 1) := by decide +kernel
theorem dX9_boxOf_13 : decode cX9_boxOf 13 = .ok (.iconst 0, 1) := by decide +kernel
theorem dX9_boxOf_14 : decode cX9_boxOf 14 = .ok (.istore_n 3, 1) := by decide +kernel
theorem dX9_boxOf_15 : decode cX9_boxOf 15 = .ok (.iload_n 3, 1) := by decide +kernel
theorem dX9_boxOf_16 : decode cX9_boxOf 16 = .ok (.iload_n 2, 1) := by decide +kernel
theorem dX9_boxOf_17 : decode cX9_boxOf 17 = .ok (.if_icmp .ge 65, 3) := by decide +kernel
theorem dX9_boxOf_20 : decode cX9_boxOf 20 = .ok (.aload_n 0, 1) := by decide +kernel
theorem dX9_boxOf_21 : decode cX9_boxOf 21 = .ok (.getfield 23, 3) := by decide +kernel
theorem dX9_boxOf_24 : decode cX9_boxOf 24 = .ok (.getfield 59, 3) := by decide +kernel
theorem dX9_boxOf_27 : decode cX9_boxOf 27 = .ok (.aload_n 1, 1) := by decide +kernel
theorem dX9_boxOf_28 : decode cX9_boxOf 28 = .ok (.getfield 65, 3) := by decide +kernel
theorem dX9_boxOf_31 : decode cX9_boxOf 31 = .ok (.iaload, 1) := by decide +kernel
theorem dX9_boxOf_32 : decode cX9_boxOf 32 = .ok (.iload_n 3, 1) := by decide +kernel
theorem dX9_boxOf_33 : decode cX9_boxOf 33 = .ok (.ishr, 1) := by decide +kernel
theorem dX9_boxOf_34 : decode cX9_boxOf 34 = .ok (.iconst 1, 1) := by decide +kernel
theorem dX9_boxOf_35 : decode cX9_boxOf 35 = .ok (.iand, 1) := by decide +kernel
theorem dX9_boxOf_36 : decode cX9_boxOf 36 = .ok (.ifCond .eq 7, 3) := by decide +kernel
theorem dX9_boxOf_39 : decode cX9_boxOf 39 = .ok (.iconst 1, 1) := by decide +kernel
theorem dX9_boxOf_40 : decode cX9_boxOf 40 = .ok (.goto 4, 3) := by decide +kernel
theorem dX9_boxOf_43 : decode cX9_boxOf 43 = .ok (.iconst 0, 1) := by decide +kernel
theorem dX9_boxOf_44 : decode cX9_boxOf 44 = .ok (.istore 4, 2) := by decide +kernel
theorem dX9_boxOf_46 : decode cX9_boxOf 46 = .ok (.iload 4, 2) := by decide +kernel
theorem dX9_boxOf_48 : decode cX9_boxOf 48 = .ok (.ifCond .ne 28, 3) := by decide +kernel
theorem dX9_boxOf_51 : decode cX9_boxOf 51 = .ok (.aload_n 0, 1) := by decide +kernel
theorem dX9_boxOf_52 : decode cX9_boxOf 52 = .ok (.getfield 19, 3) := by decide +kernel
theorem dX9_boxOf_55 : decode cX9_boxOf 55 = .ok (.aload_n 1, 1) := by decide +kernel
theorem dX9_boxOf_56 : decode cX9_boxOf 56 = .ok (.getfield 65, 3) := by decide +kernel
theorem dX9_boxOf_59 : decode cX9_boxOf 59 = .ok (.iload_n 3, 1) := by decide +kernel
theorem dX9_boxOf_60 : decode cX9_boxOf 60 = .ok (.aload_n 1, 1) := by decide +kernel
theorem dX9_boxOf_61 : decode cX9_boxOf 61 = .ok (.getfield 69, 3) := by decide +kernel
theorem dX9_boxOf_64 : decode cX9_boxOf 64 = .ok (.aload_n 1, 1) := by decide +kernel
theorem dX9_boxOf_65 : decode cX9_boxOf 65 = .ok (.getfield 72, 3) := by decide +kernel
theorem dX9_boxOf_68 : decode cX9_boxOf 68 = .ok (.invokevirtual 75, 3) := by decide +kernel
theorem dX9_boxOf_71 : decode cX9_boxOf 71 = .ok (.ifCond .eq 5, 3) := by decide +kernel
theorem dX9_boxOf_74 : decode cX9_boxOf 74 = .ok (.iload_n 3, 1) := by decide +kernel
theorem dX9_boxOf_75 : decode cX9_boxOf 75 = .ok (.ireturn, 1) := by decide +kernel
theorem dX9_boxOf_76 : decode cX9_boxOf 76 = .ok (.iinc 3 1, 3) := by decide +kernel
theorem dX9_boxOf_79 : decode cX9_boxOf 79 = .ok (.goto (-64), 3) := by decide +kernel
theorem dX9_boxOf_82 : decode cX9_boxOf 82 = .ok (.iconst (-1), 1) := by decide +kernel
theorem dX9_boxOf_83 : decode cX9_boxOf 83 = .ok (.ireturn, 1) := by decide +kernel
theorem dX9_boxesBetween_0 : decode cX9_boxesBetween 0 = .ok (.aload_n 0, 1) := by decide +kernel
theorem dX9_boxesBetween_1 : decode cX9_boxesBetween 1 = .ok (.iload_n 1, 1) := by decide +kernel
theorem dX9_boxesBetween_2 : decode cX9_boxesBetween 2 = .ok (.iload_n 2, 1) := by decide +kernel
theorem dX9_boxesBetween_3 : decode cX9_boxesBetween 3 = .ok (.invokevirtual 79, 3) := by decide +kernel
theorem dX9_boxesBetween_6 : decode cX9_boxesBetween 6 = .ok (.aload_n 0, 1) := by decide +kernel
theorem dX9_boxesBetween_7 : decode cX9_boxesBetween 7 = .ok (.getfield 9, 3) := by decide +kernel
theorem dX9_boxesBetween_10 : decode cX9_boxesBetween 10 = .ok (.iload_n 3, 1) := by decide +kernel
theorem dX9_boxesBetween_11 : decode cX9_boxesBetween 11 = .ok (.iaload, 1) := by decide +kernel
theorem dX9_boxesBetween_12 : decode cX9_boxesBetween 12 = .ok (.ireturn, 1) := by decide +kernel
theorem dX9_goalFor_0 : decode cX9_goalFor 0 = .ok (.aload_n 0, 1) := by decide +kernel
theorem dX9_goalFor_1 : decode cX9_goalFor 1 = .ok (.aload_n 1, 1) := by decide +kernel
theorem dX9_goalFor_2 : decode cX9_goalFor 2 = .ok (.invokevirtual 82, 3) := by decide +kernel
theorem dX9_goalFor_5 : decode cX9_goalFor 5 = .ok (.istore 4, 2) := by decide +kernel
theorem dX9_goalFor_7 : decode cX9_goalFor 7 = .ok (.iload 4, 2) := by decide +kernel
theorem dX9_goalFor_9 : decode cX9_goalFor 9 = .ok (.iconst (-1), 1) := by decide +kernel
theorem dX9_goalFor_10 : decode cX9_goalFor 10 = .ok (.if_icmp .ne 5, 3) := by decide +kernel
theorem dX9_goalFor_13 : decode cX9_goalFor 13 = .ok (.iconst (-1), 1) := by decide +kernel
theorem dX9_goalFor_14 : decode cX9_goalFor 14 = .ok (.ireturn, 1) := by decide +kernel
theorem dX9_goalFor_15 : decode cX9_goalFor 15 = .ok (.aload_n 0, 1) := by decide +kernel
theorem dX9_goalFor_16 : decode cX9_goalFor 16 = .ok (.aload_n 1, 1) := by decide +kernel
theorem dX9_goalFor_17 : decode cX9_goalFor 17 = .ok (.getfield 65, 3) := by decide +kernel
theorem dX9_goalFor_20 : decode cX9_goalFor 20 = .ok (.iload 4, 2) := by decide +kernel
theorem dX9_goalFor_22 : decode cX9_goalFor 22 = .ok (.iload_n 2, 1) := by decide +kernel
theorem dX9_goalFor_23 : decode cX9_goalFor 23 = .ok (.iload_n 3, 1) := by decide +kernel
theorem dX9_goalFor_24 : decode cX9_goalFor 24 = .ok (.invokevirtual 86, 3) := by decide +kernel
theorem dX9_goalFor_27 : decode cX9_goalFor 27 = .ok (.sipush 256, 3) := by decide +kernel
theorem dX9_goalFor_30 : decode cX9_goalFor 30 = .ok (.aload_n 0, 1) := by decide +kernel
theorem dX9_goalFor_31 : decode cX9_goalFor 31 = .ok (.getfield 90, 3) := by decide +kernel
theorem dX9_goalFor_34 : decode cX9_goalFor 34 = .ok (.imul, 1) := by decide +kernel
theorem dX9_goalFor_35 : decode cX9_goalFor 35 = .ok (.aload_n 0, 1) := by decide +kernel
theorem dX9_goalFor_36 : decode cX9_goalFor 36 = .ok (.getfield 93, 3) := by decide +kernel
theorem dX9_goalFor_39 : decode cX9_goalFor 39 = .ok (.iadd, 1) := by decide +kernel
theorem dX9_goalFor_40 : decode cX9_goalFor 40 = .ok (.ireturn, 1) := by decide +kernel
theorem dX9_moveAll_0 : decode cX9_moveAll 0 = .ok (.iconst 1, 1) := by decide +kernel
theorem dX9_moveAll_1 : decode cX9_moveAll 1 = .ok (.istore_n 1, 1) := by decide +kernel
theorem dX9_moveAll_2 : decode cX9_moveAll 2 = .ok (.iload_n 1, 1) := by decide +kernel
theorem dX9_moveAll_3 : decode cX9_moveAll 3 = .ok (.bipush 12, 2) := by decide +kernel
theorem dX9_moveAll_5 : decode cX9_moveAll 5 = .ok (.if_icmp .gt 47, 3) := by decide +kernel
theorem dX9_moveAll_8 : decode cX9_moveAll 8 = .ok (.aload_n 0, 1) := by decide +kernel
theorem dX9_moveAll_9 : decode cX9_moveAll 9 = .ok (.getfield 23, 3) := by decide +kernel
theorem dX9_moveAll_12 : decode cX9_moveAll 12 = .ok (.getfield 42, 3) := by decide +kernel
theorem dX9_moveAll_15 : decode cX9_moveAll 15 = .ok (.iload_n 1, 1) := by decide +kernel
theorem dX9_moveAll_16 : decode cX9_moveAll 16 = .ok (.aaload, 1) := by decide +kernel
theorem dX9_moveAll_17 : decode cX9_moveAll 17 = .ok (.astore_n 2, 1) := by decide +kernel
theorem dX9_moveAll_18 : decode cX9_moveAll 18 = .ok (.iconst 0, 1) := by decide +kernel
theorem dX9_moveAll_19 : decode cX9_moveAll 19 = .ok (.istore_n 3, 1) := by decide +kernel
theorem dX9_moveAll_20 : decode cX9_moveAll 20 = .ok (.iload_n 3, 1) := by decide +kernel
theorem dX9_moveAll_21 : decode cX9_moveAll 21 = .ok (.aload_n 2, 1) := by decide +kernel
theorem dX9_moveAll_22 : decode cX9_moveAll 22 = .ok (.getfield 96, 3) := by decide +kernel
theorem dX9_moveAll_25 : decode cX9_moveAll 25 = .ok (.if_icmp .ge 21, 3) := by decide +kernel
theorem dX9_moveAll_28 : decode cX9_moveAll 28 = .ok (.aload_n 2, 1) := by decide +kernel
theorem dX9_moveAll_29 : decode cX9_moveAll 29 = .ok (.getfield 99, 3) := by decide +kernel
theorem dX9_moveAll_32 : decode cX9_moveAll 32 = .ok (.ifCond .eq 14, 3) := by decide +kernel
theorem dX9_moveAll_35 : decode cX9_moveAll 35 = .ok (.aload_n 0, 1) := by decide +kernel
theorem dX9_moveAll_36 : decode cX9_moveAll 36 = .ok (.aload_n 2, 1) := by decide +kernel
theorem dX9_moveAll_37 : decode cX9_moveAll 37 = .ok (.invokevirtual 103, 3) := by decide +kernel
theorem dX9_moveAll_40 : decode cX9_moveAll 40 = .ok (.iinc 3 1, 3) := by decide +kernel
theorem dX9_moveAll_43 : decode cX9_moveAll 43 = .ok (.goto (-23), 3) := by decide +kernel
theorem dX9_moveAll_46 : decode cX9_moveAll 46 = .ok (.iinc 1 1, 3) := by decide +kernel
theorem dX9_moveAll_49 : decode cX9_moveAll 49 = .ok (.goto (-47), 3) := by decide +kernel
theorem dX9_moveAll_52 : decode cX9_moveAll 52 = .ok (.return_, 1) := by decide +kernel
theorem dX9_measureFrom_0 : decode cX9_measureFrom 0 = .ok (.aload_n 0, 1) := by decide +kernel
theorem dX9_measureFrom_1 : decode cX9_measureFrom 1 = .ok (.getfield 9, 3) := by decide +kernel
theorem dX9_measureFrom_4 : decode cX9_measureFrom 4 = .ok (.iconst 0, 1) := by decide +kernel
theorem dX9_measureFrom_5 : decode cX9_measureFrom 5 = .ok (.invokestatic 107, 3) := by decide +kernel
theorem dX9_measureFrom_8 : decode cX9_measureFrom 8 = .ok (.iconst 1, 1) := by decide +kernel
theorem dX9_measureFrom_9 : decode cX9_measureFrom 9 = .ok (.iload_n 2, 1) := by decide +kernel
theorem dX9_measureFrom_10 : decode cX9_measureFrom 10 = .ok (.ishl, 1) := by decide +kernel
theorem dX9_measureFrom_11 : decode cX9_measureFrom 11 = .ok (.istore_n 3, 1) := by decide +kernel
theorem dX9_measureFrom_12 : decode cX9_measureFrom 12 = .ok (.iload_n 3, 1) := by decide +kernel
theorem dX9_measureFrom_13 : decode cX9_measureFrom 13 = .ok (.istore 4, 2) := by decide +kernel
theorem dX9_measureFrom_15 : decode cX9_measureFrom 15 = .ok (.iconst 1, 1) := by decide +kernel
theorem dX9_measureFrom_16 : decode cX9_measureFrom 16 = .ok (.istore 5, 2) := by decide +kernel
theorem dX9_measureFrom_18 : decode cX9_measureFrom 18 = .ok (.iload 5, 2) := by decide +kernel
theorem dX9_measureFrom_20 : decode cX9_measureFrom 20 = .ok (.bipush 16, 2) := by decide +kernel
theorem dX9_measureFrom_22 : decode cX9_measureFrom 22 = .ok (.if_icmp .gt 97, 3) := by decide +kernel
theorem dX9_measureFrom_25 : decode cX9_measureFrom 25 = .ok (.iload 4, 2) := by decide +kernel
theorem dX9_measureFrom_27 : decode cX9_measureFrom 27 = .ok (.ifCond .eq 92, 3) := by decide +kernel
theorem dX9_measureFrom_30 : decode cX9_measureFrom 30 = .ok (.iconst 0, 1) := by decide +kernel
theorem dX9_measureFrom_31 : decode cX9_measureFrom 31 = .ok (.istore 6, 2) := by decide +kernel
theorem dX9_measureFrom_33 : decode cX9_measureFrom 33 = .ok (.iconst 0, 1) := by decide +kernel
theorem dX9_measureFrom_34 : decode cX9_measureFrom 34 = .ok (.istore 7, 2) := by decide +kernel
theorem dX9_measureFrom_36 : decode cX9_measureFrom 36 = .ok (.iload 7, 2) := by decide +kernel
theorem dX9_measureFrom_38 : decode cX9_measureFrom 38 = .ok (.bipush 16, 2) := by decide +kernel
theorem dX9_measureFrom_40 : decode cX9_measureFrom 40 = .ok (.if_icmp .ge 48, 3) := by decide +kernel
theorem dX9_measureFrom_43 : decode cX9_measureFrom 43 = .ok (.iload 4, 2) := by decide +kernel
theorem dX9_measureFrom_45 : decode cX9_measureFrom 45 = .ok (.iload 7, 2) := by decide +kernel
theorem dX9_measureFrom_47 : decode cX9_measureFrom 47 = .ok (.ishr, 1) := by decide +kernel
theorem dX9_measureFrom_48 : decode cX9_measureFrom 48 = .ok (.iconst 1, 1) := by decide +kernel
theorem dX9_measureFrom_49 : decode cX9_measureFrom 49 = .ok (.iand, 1) := by decide +kernel
theorem dX9_measureFrom_50 : decode cX9_measureFrom 50 = .ok (.ifCond .eq 32, 3) := by decide +kernel
theorem dX9_measureFrom_53 : decode cX9_measureFrom 53 = .ok (.aload_n 0, 1) := by decide +kernel
theorem dX9_measureFrom_54 : decode cX9_measureFrom 54 = .ok (.getfield 9, 3) := by decide +kernel
theorem dX9_measureFrom_57 : decode cX9_measureFrom 57 = .ok (.iload 7, 2) := by decide +kernel
theorem dX9_measureFrom_59 : decode cX9_measureFrom 59 = .ok (.iload 5, 2) := by decide +kernel
theorem dX9_measureFrom_61 : decode cX9_measureFrom 61 = .ok (.iastore, 1) := by decide +kernel
theorem dX9_measureFrom_62 : decode cX9_measureFrom 62 = .ok (.iload 6, 2) := by decide +kernel
theorem dX9_measureFrom_64 : decode cX9_measureFrom 64 = .ok (.aload_n 0, 1) := by decide +kernel
theorem dX9_measureFrom_65 : decode cX9_measureFrom 65 = .ok (.getfield 19, 3) := by decide +kernel
theorem dX9_measureFrom_68 : decode cX9_measureFrom 68 = .ok (.getfield 113, 3) := by decide +kernel
theorem dX9_measureFrom_71 : decode cX9_measureFrom 71 = .ok (.iload_n 1, 1) := by decide +kernel
theorem dX9_measureFrom_72 : decode cX9_measureFrom 72 = .ok (.bipush 16, 2) := by decide +kernel
theorem dX9_measureFrom_74 : decode cX9_measureFrom 74 = .ok (.imul, 1) := by decide +kernel
theorem dX9_measureFrom_75 : decode cX9_measureFrom 75 = .ok (.iload 7, 2) := by decide +kernel
theorem dX9_measureFrom_77 : decode cX9_measureFrom 77 = .ok (.iadd, 1) := by decide +kernel
theorem dX9_measureFrom_78 : decode cX9_measureFrom 78 = .ok (.iaload, 1) := by decide +kernel
theorem dX9_measureFrom_79 : decode cX9_measureFrom 79 = .ok (.ior, 1) := by decide +kernel
theorem dX9_measureFrom_80 : decode cX9_measureFrom 80 = .ok (.istore 6, 2) := by decide +kernel
theorem dX9_measureFrom_82 : decode cX9_measureFrom 82 = .ok (.iinc 7 1, 3) := by decide +kernel
theorem dX9_measureFrom_85 : decode cX9_measureFrom 85 = .ok (.goto (-49), 3) := by decide +kernel
theorem dX9_measureFrom_88 : decode cX9_measureFrom 88 = .ok (.iload 6, 2) := by decide +kernel
theorem dX9_measureFrom_90 : decode cX9_measureFrom 90 = .ok (.iload_n 3, 1) := by decide +kernel
theorem dX9_measureFrom_91 : decode cX9_measureFrom 91 = .ok (.iconst (-1), 1) := by decide +kernel
theorem dX9_measureFrom_92 : decode cX9_measureFrom 92 = .ok (.ixor, 1) := by decide +kernel
theorem dX9_measureFrom_93 : decode cX9_measureFrom 93 = .ok (.iand, 1) := by decide +kernel
theorem dX9_measureFrom_94 : decode cX9_measureFrom 94 = .ok (.aload_n 0, 1) := by decide +kernel
theorem dX9_measureFrom_95 : decode cX9_measureFrom 95 = .ok (.getfield 23, 3) := by decide +kernel
theorem dX9_measureFrom_98 : decode cX9_measureFrom 98 = .ok (.getfield 59, 3) := by decide +kernel
theorem dX9_measureFrom_101 : decode cX9_measureFrom 101 = .ok (.iload_n 1, 1) := by decide +kernel
theorem dX9_measureFrom_102 : decode cX9_measureFrom 102 = .ok (.iaload, 1) := by decide +kernel
theorem dX9_measureFrom_103 : decode cX9_measureFrom 103 = .ok (.iconst (-1), 1) := by decide +kernel
theorem dX9_measureFrom_104 : decode cX9_measureFrom 104 = .ok (.ixor, 1) := by decide +kernel
theorem dX9_measureFrom_105 : decode cX9_measureFrom 105 = .ok (.iand, 1) := by decide +kernel
theorem dX9_measureFrom_106 : decode cX9_measureFrom 106 = .ok (.istore 4, 2) := by decide +kernel
theorem dX9_measureFrom_108 : decode cX9_measureFrom 108 = .ok (.iload_n 3, 1) := by decide +kernel
theorem dX9_measureFrom_109 : decode cX9_measureFrom 109 = .ok (.iload 4, 2) := by decide +kernel
theorem dX9_measureFrom_111 : decode cX9_measureFrom 111 = .ok (.ior, 1) := by decide +kernel
theorem dX9_measureFrom_112 : decode cX9_measureFrom 112 = .ok (.istore_n 3, 1) := by decide +kernel
theorem dX9_measureFrom_113 : decode cX9_measureFrom 113 = .ok (.iinc 5 1, 3) := by decide +kernel
theorem dX9_measureFrom_116 : decode cX9_measureFrom 116 = .ok (.goto (-98), 3) := by decide +kernel
theorem dX9_measureFrom_119 : decode cX9_measureFrom 119 = .ok (.return_, 1) := by decide +kernel
theorem dX9_findGoal_0 : decode cX9_findGoal 0 = .ok (.aload_n 0, 1) := by decide +kernel
theorem dX9_findGoal_1 : decode cX9_findGoal 1 = .ok (.iload_n 1, 1) := by decide +kernel
theorem dX9_findGoal_2 : decode cX9_findGoal 2 = .ok (.iload_n 2, 1) := by decide +kernel
theorem dX9_findGoal_3 : decode cX9_findGoal 3 = .ok (.invokevirtual 79, 3) := by decide +kernel
theorem dX9_findGoal_6 : decode cX9_findGoal 6 = .ok (.ldc 116, 2) := by decide +kernel
theorem dX9_findGoal_8 : decode cX9_findGoal 8 = .ok (.istore 5, 2) := by decide +kernel
theorem dX9_findGoal_10 : decode cX9_findGoal 10 = .ok (.iconst 0, 1) := by decide +kernel
theorem dX9_findGoal_11 : decode cX9_findGoal 11 = .ok (.istore 6, 2) := by decide +kernel
theorem dX9_findGoal_13 : decode cX9_findGoal 13 = .ok (.iload 6, 2) := by decide +kernel
theorem dX9_findGoal_15 : decode cX9_findGoal 15 = .ok (.bipush 16, 2) := by decide +kernel
theorem dX9_findGoal_17 : decode cX9_findGoal 17 = .ok (.if_icmp .ge 101, 3) := by decide +kernel
theorem dX9_findGoal_20 : decode cX9_findGoal 20 = .ok (.aload_n 0, 1) := by decide +kernel
theorem dX9_findGoal_21 : decode cX9_findGoal 21 = .ok (.getfield 9, 3) := by decide +kernel
theorem dX9_findGoal_24 : decode cX9_findGoal 24 = .ok (.iload 6, 2) := by decide +kernel
theorem dX9_findGoal_26 : decode cX9_findGoal 26 = .ok (.iaload, 1) := by decide +kernel
theorem dX9_findGoal_27 : decode cX9_findGoal 27 = .ok (.ifCond .ne 6, 3) := by decide +kernel
theorem dX9_findGoal_30 : decode cX9_findGoal 30 = .ok (.goto 82, 3) := by decide +kernel
theorem dX9_findGoal_33 : decode cX9_findGoal 33 = .ok (.aload_n 0, 1) := by decide +kernel
theorem dX9_findGoal_34 : decode cX9_findGoal 34 = .ok (.getfield 19, 3) := by decide +kernel
theorem dX9_findGoal_37 : decode cX9_findGoal 37 = .ok (.iload_n 1, 1) := by decide +kernel
theorem dX9_findGoal_38 : decode cX9_findGoal 38 = .ok (.iload 6, 2) := by decide +kernel
theorem dX9_findGoal_40 : decode cX9_findGoal 40 = .ok (.iload_n 3, 1) := by decide +kernel
theorem dX9_findGoal_41 : decode cX9_findGoal 41 = .ok (.invokevirtual 117, 3) := by decide +kernel
theorem dX9_findGoal_44 : decode cX9_findGoal 44 = .ok (.istore 7, 2) := by decide +kernel
theorem dX9_findGoal_46 : decode cX9_findGoal 46 = .ok (.aload_n 0, 1) := by decide +kernel
theorem dX9_findGoal_47 : decode cX9_findGoal 47 = .ok (.getfield 19, 3) := by decide +kernel
theorem dX9_findGoal_50 : decode cX9_findGoal 50 = .ok (.iload_n 1, 1) := by decide +kernel
theorem dX9_findGoal_51 : decode cX9_findGoal 51 = .ok (.iload 6, 2) := by decide +kernel
theorem dX9_findGoal_53 : decode cX9_findGoal 53 = .ok (.iload 4, 2) := by decide +kernel
theorem dX9_findGoal_55 : decode cX9_findGoal 55 = .ok (.invokevirtual 121, 3) := by decide +kernel
theorem dX9_findGoal_58 : decode cX9_findGoal 58 = .ok (.istore 8, 2) := by decide +kernel
theorem dX9_findGoal_60 : decode cX9_findGoal 60 = .ok (.iload_n 3, 1) := by decide +kernel
theorem dX9_findGoal_61 : decode cX9_findGoal 61 = .ok (.iload 7, 2) := by decide +kernel
theorem dX9_findGoal_63 : decode cX9_findGoal 63 = .ok (.isub, 1) := by decide +kernel
theorem dX9_findGoal_64 : decode cX9_findGoal 64 = .ok (.iload_n 3, 1) := by decide +kernel
theorem dX9_findGoal_65 : decode cX9_findGoal 65 = .ok (.iload 7, 2) := by decide +kernel
theorem dX9_findGoal_67 : decode cX9_findGoal 67 = .ok (.isub, 1) := by decide +kernel
theorem dX9_findGoal_68 : decode cX9_findGoal 68 = .ok (.imul, 1) := by decide +kernel
theorem dX9_findGoal_69 : decode cX9_findGoal 69 = .ok (.iload 4, 2) := by decide +kernel
theorem dX9_findGoal_71 : decode cX9_findGoal 71 = .ok (.iload 8, 2) := by decide +kernel
theorem dX9_findGoal_73 : decode cX9_findGoal 73 = .ok (.isub, 1) := by decide +kernel
theorem dX9_findGoal_74 : decode cX9_findGoal 74 = .ok (.iload 4, 2) := by decide +kernel
theorem dX9_findGoal_76 : decode cX9_findGoal 76 = .ok (.iload 8, 2) := by decide +kernel
theorem dX9_findGoal_78 : decode cX9_findGoal 78 = .ok (.isub, 1) := by decide +kernel
theorem dX9_findGoal_79 : decode cX9_findGoal 79 = .ok (.imul, 1) := by decide +kernel
theorem dX9_findGoal_80 : decode cX9_findGoal 80 = .ok (.iadd, 1) := by decide +kernel
theorem dX9_findGoal_81 : decode cX9_findGoal 81 = .ok (.istore 9, 2) := by decide +kernel
theorem dX9_findGoal_83 : decode cX9_findGoal 83 = .ok (.iload 9, 2) := by decide +kernel
theorem dX9_findGoal_85 : decode cX9_findGoal 85 = .ok (.iload 5, 2) := by decide +kernel
theorem dX9_findGoal_87 : decode cX9_findGoal 87 = .ok (.if_icmp .ge 25, 3) := by decide +kernel
theorem dX9_findGoal_90 : decode cX9_findGoal 90 = .ok (.iload 9, 2) := by decide +kernel
theorem dX9_findGoal_92 : decode cX9_findGoal 92 = .ok (.istore 5, 2) := by decide +kernel
theorem dX9_findGoal_94 : decode cX9_findGoal 94 = .ok (.aload_n 0, 1) := by decide +kernel
theorem dX9_findGoal_95 : decode cX9_findGoal 95 = .ok (.iload 7, 2) := by decide +kernel
theorem dX9_findGoal_97 : decode cX9_findGoal 97 = .ok (.putfield 90, 3) := by decide +kernel
theorem dX9_findGoal_100 : decode cX9_findGoal 100 = .ok (.aload_n 0, 1) := by decide +kernel
theorem dX9_findGoal_101 : decode cX9_findGoal 101 = .ok (.iload 8, 2) := by decide +kernel
theorem dX9_findGoal_103 : decode cX9_findGoal 103 = .ok (.putfield 93, 3) := by decide +kernel
theorem dX9_findGoal_106 : decode cX9_findGoal 106 = .ok (.aload_n 0, 1) := by decide +kernel
theorem dX9_findGoal_107 : decode cX9_findGoal 107 = .ok (.iload 6, 2) := by decide +kernel
theorem dX9_findGoal_109 : decode cX9_findGoal 109 = .ok (.putfield 124, 3) := by decide +kernel
theorem dX9_findGoal_112 : decode cX9_findGoal 112 = .ok (.iinc 6 1, 3) := by decide +kernel
theorem dX9_findGoal_115 : decode cX9_findGoal 115 = .ok (.goto (-102), 3) := by decide +kernel
theorem dX9_findGoal_118 : decode cX9_findGoal 118 = .ok (.return_, 1) := by decide +kernel
theorem dX9_step_0 : decode cX9_step 0 = .ok (.aload_n 0, 1) := by decide +kernel
theorem dX9_step_1 : decode cX9_step 1 = .ok (.aload_n 1, 1) := by decide +kernel
theorem dX9_step_2 : decode cX9_step 2 = .ok (.invokevirtual 82, 3) := by decide +kernel
theorem dX9_step_5 : decode cX9_step 5 = .ok (.istore_n 2, 1) := by decide +kernel
theorem dX9_step_6 : decode cX9_step 6 = .ok (.iload_n 2, 1) := by decide +kernel
theorem dX9_step_7 : decode cX9_step 7 = .ok (.iconst (-1), 1) := by decide +kernel
theorem dX9_step_8 : decode cX9_step 8 = .ok (.if_icmp .ne 8, 3) := by decide +kernel
theorem dX9_step_11 : decode cX9_step 11 = .ok (.aload_n 1, 1) := by decide +kernel
theorem dX9_step_12 : decode cX9_step 12 = .ok (.invokevirtual 127, 3) := by decide +kernel
theorem dX9_step_15 : decode cX9_step 15 = .ok (.return_, 1) := by decide +kernel
theorem dX9_step_16 : decode cX9_step 16 = .ok (.aload_n 1, 1) := by decide +kernel
theorem dX9_step_17 : decode cX9_step 17 = .ok (.getfield 65, 3) := by decide +kernel
theorem dX9_step_20 : decode cX9_step 20 = .ok (.istore_n 3, 1) := by decide +kernel
theorem dX9_step_21 : decode cX9_step 21 = .ok (.aload_n 0, 1) := by decide +kernel
theorem dX9_step_22 : decode cX9_step 22 = .ok (.iload_n 3, 1) := by decide +kernel
theorem dX9_step_23 : decode cX9_step 23 = .ok (.iload_n 2, 1) := by decide +kernel
theorem dX9_step_24 : decode cX9_step 24 = .ok (.aload_n 1, 1) := by decide +kernel
theorem dX9_step_25 : decode cX9_step 25 = .ok (.getfield 130, 3) := by decide +kernel
theorem dX9_step_28 : decode cX9_step 28 = .ok (.aload_n 1, 1) := by decide +kernel
theorem dX9_step_29 : decode cX9_step 29 = .ok (.getfield 133, 3) := by decide +kernel
theorem dX9_step_32 : decode cX9_step 32 = .ok (.invokevirtual 86, 3) := by decide +kernel
theorem dX9_step_35 : decode cX9_step 35 = .ok (.aload_n 1, 1) := by decide +kernel
theorem dX9_step_36 : decode cX9_step 36 = .ok (.getfield 69, 3) := by decide +kernel
theorem dX9_step_39 : decode cX9_step 39 = .ok (.aload_n 0, 1) := by decide +kernel
theorem dX9_step_40 : decode cX9_step 40 = .ok (.getfield 90, 3) := by decide +kernel
theorem dX9_step_43 : decode cX9_step 43 = .ok (.if_icmp .ne 21, 3) := by decide +kernel
theorem dX9_step_46 : decode cX9_step 46 = .ok (.aload_n 1, 1) := by decide +kernel
theorem dX9_step_47 : decode cX9_step 47 = .ok (.getfield 72, 3) := by decide +kernel
theorem dX9_step_50 : decode cX9_step 50 = .ok (.aload_n 0, 1) := by decide +kernel
theorem dX9_step_51 : decode cX9_step 51 = .ok (.getfield 93, 3) := by decide +kernel
theorem dX9_step_54 : decode cX9_step 54 = .ok (.if_icmp .ne 10, 3) := by decide +kernel
theorem dX9_step_57 : decode cX9_step 57 = .ok (.aload_n 1, 1) := by decide +kernel
theorem dX9_step_58 : decode cX9_step 58 = .ok (.invokevirtual 127, 3) := by decide +kernel
theorem dX9_step_61 : decode cX9_step 61 = .ok (.goto 93, 3) := by decide +kernel
theorem dX9_step_64 : decode cX9_step 64 = .ok (.aload_n 0, 1) := by decide +kernel
theorem dX9_step_65 : decode cX9_step 65 = .ok (.getfield 19, 3) := by decide +kernel
theorem dX9_step_68 : decode cX9_step 68 = .ok (.iload_n 3, 1) := by decide +kernel
theorem dX9_step_69 : decode cX9_step 69 = .ok (.iload_n 2, 1) := by decide +kernel
theorem dX9_step_70 : decode cX9_step 70 = .ok (.aload_n 0, 1) := by decide +kernel
theorem dX9_step_71 : decode cX9_step 71 = .ok (.getfield 90, 3) := by decide +kernel
theorem dX9_step_74 : decode cX9_step 74 = .ok (.aload_n 0, 1) := by decide +kernel
theorem dX9_step_75 : decode cX9_step 75 = .ok (.getfield 93, 3) := by decide +kernel
theorem dX9_step_78 : decode cX9_step 78 = .ok (.invokevirtual 75, 3) := by decide +kernel
theorem dX9_step_81 : decode cX9_step 81 = .ok (.ifCond .eq 21, 3) := by decide +kernel
theorem dX9_step_84 : decode cX9_step 84 = .ok (.aload_n 0, 1) := by decide +kernel
theorem dX9_step_85 : decode cX9_step 85 = .ok (.aload_n 1, 1) := by decide +kernel
theorem dX9_step_86 : decode cX9_step 86 = .ok (.iload_n 2, 1) := by decide +kernel
theorem dX9_step_87 : decode cX9_step 87 = .ok (.iload_n 2, 1) := by decide +kernel
theorem dX9_step_88 : decode cX9_step 88 = .ok (.aload_n 0, 1) := by decide +kernel
theorem dX9_step_89 : decode cX9_step 89 = .ok (.getfield 90, 3) := by decide +kernel
theorem dX9_step_92 : decode cX9_step 92 = .ok (.aload_n 0, 1) := by decide +kernel
theorem dX9_step_93 : decode cX9_step 93 = .ok (.getfield 93, 3) := by decide +kernel
theorem dX9_step_96 : decode cX9_step 96 = .ok (.invokevirtual 136, 3) := by decide +kernel
theorem dX9_step_99 : decode cX9_step 99 = .ok (.goto 55, 3) := by decide +kernel
theorem dX9_step_102 : decode cX9_step 102 = .ok (.aload_n 0, 1) := by decide +kernel
theorem dX9_step_103 : decode cX9_step 103 = .ok (.iload_n 3, 1) := by decide +kernel
theorem dX9_step_104 : decode cX9_step 104 = .ok (.iload_n 2, 1) := by decide +kernel
theorem dX9_step_105 : decode cX9_step 105 = .ok (.invokevirtual 140, 3) := by decide +kernel
theorem dX9_step_108 : decode cX9_step 108 = .ok (.istore 4, 2) := by decide +kernel
theorem dX9_step_110 : decode cX9_step 110 = .ok (.aload_n 0, 1) := by decide +kernel
theorem dX9_step_111 : decode cX9_step 111 = .ok (.getfield 19, 3) := by decide +kernel
theorem dX9_step_114 : decode cX9_step 114 = .ok (.iload_n 3, 1) := by decide +kernel
theorem dX9_step_115 : decode cX9_step 115 = .ok (.iload 4, 2) := by decide +kernel
theorem dX9_step_117 : decode cX9_step 117 = .ok (.aload_n 1, 1) := by decide +kernel
theorem dX9_step_118 : decode cX9_step 118 = .ok (.getfield 69, 3) := by decide +kernel
theorem dX9_step_121 : decode cX9_step 121 = .ok (.invokevirtual 117, 3) := by decide +kernel
theorem dX9_step_124 : decode cX9_step 124 = .ok (.istore 5, 2) := by decide +kernel
theorem dX9_step_126 : decode cX9_step 126 = .ok (.aload_n 0, 1) := by decide +kernel
theorem dX9_step_127 : decode cX9_step 127 = .ok (.getfield 19, 3) := by decide +kernel
theorem dX9_step_130 : decode cX9_step 130 = .ok (.iload_n 3, 1) := by decide +kernel
theorem dX9_step_131 : decode cX9_step 131 = .ok (.iload 4, 2) := by decide +kernel
theorem dX9_step_133 : decode cX9_step 133 = .ok (.aload_n 1, 1) := by decide +kernel
theorem dX9_step_134 : decode cX9_step 134 = .ok (.getfield 72, 3) := by decide +kernel
theorem dX9_step_137 : decode cX9_step 137 = .ok (.invokevirtual 121, 3) := by decide +kernel
theorem dX9_step_140 : decode cX9_step 140 = .ok (.istore 6, 2) := by decide +kernel
theorem dX9_step_142 : decode cX9_step 142 = .ok (.aload_n 0, 1) := by decide +kernel
theorem dX9_step_143 : decode cX9_step 143 = .ok (.aload_n 1, 1) := by decide +kernel
theorem dX9_step_144 : decode cX9_step 144 = .ok (.iload_n 2, 1) := by decide +kernel
theorem dX9_step_145 : decode cX9_step 145 = .ok (.iload 4, 2) := by decide +kernel
theorem dX9_step_147 : decode cX9_step 147 = .ok (.iload 5, 2) := by decide +kernel
theorem dX9_step_149 : decode cX9_step 149 = .ok (.iload 6, 2) := by decide +kernel
theorem dX9_step_151 : decode cX9_step 151 = .ok (.invokevirtual 136, 3) := by decide +kernel
theorem dX9_step_154 : decode cX9_step 154 = .ok (.return_, 1) := by decide +kernel
theorem dX9_nextBox_0 : decode cX9_nextBox 0 = .ok (.aload_n 0, 1) := by decide +kernel
theorem dX9_nextBox_1 : decode cX9_nextBox 1 = .ok (.iload_n 1, 1) := by decide +kernel
theorem dX9_nextBox_2 : decode cX9_nextBox 2 = .ok (.aload_n 0, 1) := by decide +kernel
theorem dX9_nextBox_3 : decode cX9_nextBox 3 = .ok (.getfield 124, 3) := by decide +kernel
theorem dX9_nextBox_6 : decode cX9_nextBox 6 = .ok (.invokevirtual 79, 3) := by decide +kernel
theorem dX9_nextBox_9 : decode cX9_nextBox 9 = .ok (.aload_n 0, 1) := by decide +kernel
theorem dX9_nextBox_10 : decode cX9_nextBox 10 = .ok (.getfield 19, 3) := by decide +kernel
theorem dX9_nextBox_13 : decode cX9_nextBox 13 = .ok (.getfield 113, 3) := by decide +kernel
theorem dX9_nextBox_16 : decode cX9_nextBox 16 = .ok (.iload_n 1, 1) := by decide +kernel
theorem dX9_nextBox_17 : decode cX9_nextBox 17 = .ok (.bipush 16, 2) := by decide +kernel
theorem dX9_nextBox_19 : decode cX9_nextBox 19 = .ok (.imul, 1) := by decide +kernel
theorem dX9_nextBox_20 : decode cX9_nextBox 20 = .ok (.iload_n 2, 1) := by decide +kernel
theorem dX9_nextBox_21 : decode cX9_nextBox 21 = .ok (.iadd, 1) := by decide +kernel
theorem dX9_nextBox_22 : decode cX9_nextBox 22 = .ok (.iaload, 1) := by decide +kernel
theorem dX9_nextBox_23 : decode cX9_nextBox 23 = .ok (.istore_n 3, 1) := by decide +kernel
theorem dX9_nextBox_24 : decode cX9_nextBox 24 = .ok (.iconst 0, 1) := by decide +kernel
theorem dX9_nextBox_25 : decode cX9_nextBox 25 = .ok (.istore 4, 2) := by decide +kernel
theorem dX9_nextBox_27 : decode cX9_nextBox 27 = .ok (.iload 4, 2) := by decide +kernel
theorem dX9_nextBox_29 : decode cX9_nextBox 29 = .ok (.bipush 16, 2) := by decide +kernel
theorem dX9_nextBox_31 : decode cX9_nextBox 31 = .ok (.if_icmp .ge 49, 3) := by decide +kernel
theorem dX9_nextBox_34 : decode cX9_nextBox 34 = .ok (.iload_n 3, 1) := by decide +kernel
theorem dX9_nextBox_35 : decode cX9_nextBox 35 = .ok (.iload 4, 2) := by decide +kernel
theorem dX9_nextBox_37 : decode cX9_nextBox 37 = .ok (.ishr, 1) := by decide +kernel
theorem dX9_nextBox_38 : decode cX9_nextBox 38 = .ok (.iconst 1, 1) := by decide +kernel
theorem dX9_nextBox_39 : decode cX9_nextBox 39 = .ok (.iand, 1) := by decide +kernel
theorem dX9_nextBox_40 : decode cX9_nextBox 40 = .ok (.ifCond .eq 34, 3) := by decide +kernel
theorem dX9_nextBox_43 : decode cX9_nextBox 43 = .ok (.aload_n 0, 1) := by decide +kernel
theorem dX9_nextBox_44 : decode cX9_nextBox 44 = .ok (.getfield 9, 3) := by decide +kernel
theorem dX9_nextBox_47 : decode cX9_nextBox 47 = .ok (.iload 4, 2) := by decide +kernel
theorem dX9_nextBox_49 : decode cX9_nextBox 49 = .ok (.iaload, 1) := by decide +kernel
theorem dX9_nextBox_50 : decode cX9_nextBox 50 = .ok (.ifCond .eq 24, 3) := by decide +kernel
theorem dX9_nextBox_53 : decode cX9_nextBox 53 = .ok (.aload_n 0, 1) := by decide +kernel
theorem dX9_nextBox_54 : decode cX9_nextBox 54 = .ok (.getfield 9, 3) := by decide +kernel
theorem dX9_nextBox_57 : decode cX9_nextBox 57 = .ok (.iload 4, 2) := by decide +kernel
theorem dX9_nextBox_59 : decode cX9_nextBox 59 = .ok (.iaload, 1) := by decide +kernel
theorem dX9_nextBox_60 : decode cX9_nextBox 60 = .ok (.aload_n 0, 1) := by decide +kernel
theorem dX9_nextBox_61 : decode cX9_nextBox 61 = .ok (.getfield 9, 3) := by decide +kernel
theorem dX9_nextBox_64 : decode cX9_nextBox 64 = .ok (.iload_n 2, 1) := by decide +kernel
theorem dX9_nextBox_65 : decode cX9_nextBox 65 = .ok (.iaload, 1) := by decide +kernel
theorem dX9_nextBox_66 : decode cX9_nextBox 66 = .ok (.iconst 1, 1) := by decide +kernel
theorem dX9_nextBox_67 : decode cX9_nextBox 67 = .ok (.isub, 1) := by decide +kernel
theorem dX9_nextBox_68 : decode cX9_nextBox 68 = .ok (.if_icmp .ne 6, 3) := by decide +kernel
theorem dX9_nextBox_71 : decode cX9_nextBox 71 = .ok (.iload 4, 2) := by decide +kernel
theorem dX9_nextBox_73 : decode cX9_nextBox 73 = .ok (.ireturn, 1) := by decide +kernel
theorem dX9_nextBox_74 : decode cX9_nextBox 74 = .ok (.iinc 4 1, 3) := by decide +kernel
theorem dX9_nextBox_77 : decode cX9_nextBox 77 = .ok (.goto (-50), 3) := by decide +kernel
theorem dX9_nextBox_80 : decode cX9_nextBox 80 = .ok (.iload_n 2, 1) := by decide +kernel
theorem dX9_nextBox_81 : decode cX9_nextBox 81 = .ok (.ireturn, 1) := by decide +kernel
theorem dX9_stepTo_0 : decode cX9_stepTo 0 = .ok (.aload_n 1, 1) := by decide +kernel
theorem dX9_stepTo_1 : decode cX9_stepTo 1 = .ok (.getfield 69, 3) := by decide +kernel
theorem dX9_stepTo_4 : decode cX9_stepTo 4 = .ok (.iload 4, 2) := by decide +kernel
theorem dX9_stepTo_6 : decode cX9_stepTo 6 = .ok (.aload_n 1, 1) := by decide +kernel
theorem dX9_stepTo_7 : decode cX9_stepTo 7 = .ok (.getfield 69, 3) := by decide +kernel
theorem dX9_stepTo_10 : decode cX9_stepTo 10 = .ok (.invokestatic 144, 3) := by decide +kernel
theorem dX9_stepTo_13 : decode cX9_stepTo 13 = .ok (.iadd, 1) := by decide +kernel
theorem dX9_stepTo_14 : decode cX9_stepTo 14 = .ok (.istore 6, 2) := by decide +kernel
theorem dX9_stepTo_16 : decode cX9_stepTo 16 = .ok (.aload_n 0, 1) := by decide +kernel
theorem dX9_stepTo_17 : decode cX9_stepTo 17 = .ok (.getfield 19, 3) := by decide +kernel
theorem dX9_stepTo_20 : decode cX9_stepTo 20 = .ok (.aload_n 1, 1) := by decide +kernel
theorem dX9_stepTo_21 : decode cX9_stepTo 21 = .ok (.getfield 65, 3) := by decide +kernel
theorem dX9_stepTo_24 : decode cX9_stepTo 24 = .ok (.iload_n 2, 1) := by decide +kernel
theorem dX9_stepTo_25 : decode cX9_stepTo 25 = .ok (.iload 6, 2) := by decide +kernel
theorem dX9_stepTo_27 : decode cX9_stepTo 27 = .ok (.aload_n 1, 1) := by decide +kernel
theorem dX9_stepTo_28 : decode cX9_stepTo 28 = .ok (.getfield 72, 3) := by decide +kernel
theorem dX9_stepTo_31 : decode cX9_stepTo 31 = .ok (.invokevirtual 75, 3) := by decide +kernel
theorem dX9_stepTo_34 : decode cX9_stepTo 34 = .ok (.ifCond .ne 24, 3) := by decide +kernel
theorem dX9_stepTo_37 : decode cX9_stepTo 37 = .ok (.aload_n 0, 1) := by decide +kernel
theorem dX9_stepTo_38 : decode cX9_stepTo 38 = .ok (.getfield 19, 3) := by decide +kernel
theorem dX9_stepTo_41 : decode cX9_stepTo 41 = .ok (.aload_n 1, 1) := by decide +kernel
theorem dX9_stepTo_42 : decode cX9_stepTo 42 = .ok (.getfield 65, 3) := by decide +kernel
theorem dX9_stepTo_45 : decode cX9_stepTo 45 = .ok (.iload_n 3, 1) := by decide +kernel
theorem dX9_stepTo_46 : decode cX9_stepTo 46 = .ok (.iload 6, 2) := by decide +kernel
theorem dX9_stepTo_48 : decode cX9_stepTo 48 = .ok (.aload_n 1, 1) := by decide +kernel
theorem dX9_stepTo_49 : decode cX9_stepTo 49 = .ok (.getfield 72, 3) := by decide +kernel
theorem dX9_stepTo_52 : decode cX9_stepTo 52 = .ok (.invokevirtual 75, 3) := by decide +kernel
theorem dX9_stepTo_55 : decode cX9_stepTo 55 = .ok (.ifCond .eq 7, 3) := by decide +kernel
theorem dX9_stepTo_58 : decode cX9_stepTo 58 = .ok (.iconst 1, 1) := by decide +kernel
theorem dX9_stepTo_59 : decode cX9_stepTo 59 = .ok (.goto 4, 3) := by decide +kernel
theorem dX9_stepTo_62 : decode cX9_stepTo 62 = .ok (.iconst 0, 1) := by decide +kernel
theorem dX9_stepTo_63 : decode cX9_stepTo 63 = .ok (.istore 7, 2) := by decide +kernel
theorem dX9_stepTo_65 : decode cX9_stepTo 65 = .ok (.iload 6, 2) := by decide +kernel
theorem dX9_stepTo_67 : decode cX9_stepTo 67 = .ok (.aload_n 1, 1) := by decide +kernel
theorem dX9_stepTo_68 : decode cX9_stepTo 68 = .ok (.getfield 69, 3) := by decide +kernel
theorem dX9_stepTo_71 : decode cX9_stepTo 71 = .ok (.if_icmp .eq 17, 3) := by decide +kernel
theorem dX9_stepTo_74 : decode cX9_stepTo 74 = .ok (.iload 7, 2) := by decide +kernel
theorem dX9_stepTo_76 : decode cX9_stepTo 76 = .ok (.ifCond .eq 12, 3) := by decide +kernel
theorem dX9_stepTo_79 : decode cX9_stepTo 79 = .ok (.aload_n 1, 1) := by decide +kernel
theorem dX9_stepTo_80 : decode cX9_stepTo 80 = .ok (.iload 6, 2) := by decide +kernel
theorem dX9_stepTo_82 : decode cX9_stepTo 82 = .ok (.putfield 69, 3) := by decide +kernel
theorem dX9_stepTo_85 : decode cX9_stepTo 85 = .ok (.goto 21, 3) := by decide +kernel
theorem dX9_stepTo_88 : decode cX9_stepTo 88 = .ok (.aload_n 1, 1) := by decide +kernel
theorem dX9_stepTo_89 : decode cX9_stepTo 89 = .ok (.dup, 1) := by decide +kernel
theorem dX9_stepTo_90 : decode cX9_stepTo 90 = .ok (.getfield 72, 3) := by decide +kernel
theorem dX9_stepTo_93 : decode cX9_stepTo 93 = .ok (.iload 5, 2) := by decide +kernel
theorem dX9_stepTo_95 : decode cX9_stepTo 95 = .ok (.aload_n 1, 1) := by decide +kernel
theorem dX9_stepTo_96 : decode cX9_stepTo 96 = .ok (.getfield 72, 3) := by decide +kernel
theorem dX9_stepTo_99 : decode cX9_stepTo 99 = .ok (.invokestatic 144, 3) := by decide +kernel
theorem dX9_stepTo_102 : decode cX9_stepTo 102 = .ok (.iadd, 1) := by decide +kernel
theorem dX9_stepTo_103 : decode cX9_stepTo 103 = .ok (.putfield 72, 3) := by decide +kernel
theorem dX9_stepTo_106 : decode cX9_stepTo 106 = .ok (.return_, 1) := by decide +kernel
end
section
theorem dX5_init_0 : decode cX5_init 0 = .ok (.aload_n 0, 1) := by decide +kernel
theorem dX5_init_1 : decode cX5_init 1 = .ok (.invokespecial 3, 3) := by decide +kernel
theorem dX5_init_4 : decode cX5_init 4 = .ok (.aload_n 0, 1) := by decide +kernel
theorem dX5_init_5 : decode cX5_init 5 = .ok (.iconst 4, 1) := by decide +kernel
theorem dX5_init_6 : decode cX5_init 6 = .ok (.newarray .int, 2) := by decide +kernel
theorem dX5_init_8 : decode cX5_init 8 = .ok (.putfield 9, 3) := by decide +kernel
theorem dX5_init_11 : decode cX5_init 11 = .ok (.aload_n 0, 1) := by decide +kernel
theorem dX5_init_12 : decode cX5_init 12 = .ok (.aload_n 1, 1) := by decide +kernel
theorem dX5_init_13 : decode cX5_init 13 = .ok (.putfield 15, 3) := by decide +kernel
theorem dX5_init_16 : decode cX5_init 16 = .ok (.aload_n 0, 1) := by decide +kernel
theorem dX5_init_17 : decode cX5_init 17 = .ok (.aload_n 2, 1) := by decide +kernel
theorem dX5_init_18 : decode cX5_init 18 = .ok (.putfield 19, 3) := by decide +kernel
theorem dX5_init_21 : decode cX5_init 21 = .ok (.aload_n 0, 1) := by decide +kernel
theorem dX5_init_22 : decode cX5_init 22 = .ok (.aload_n 3, 1) := by decide +kernel
theorem dX5_init_23 : decode cX5_init 23 = .ok (.putfield 23, 3) := by decide +kernel
theorem dX5_init_26 : decode cX5_init 26 = .ok (.aload_n 0, 1) := by decide +kernel
theorem dX5_init_27 : decode cX5_init 27 = .ok (.aload 4, 2) := by decide +kernel
theorem dX5_init_29 : decode cX5_init 29 = .ok (.putfield 27, 3) := by decide +kernel
theorem dX5_init_32 : decode cX5_init 32 = .ok (.return_, 1) := by decide +kernel
theorem dX5_beat_0 : decode cX5_beat 0 = .ok (.aload_n 0, 1) := by decide +kernel
theorem dX5_beat_1 : decode cX5_beat 1 = .ok (.getfield 23, 3) := by decide +kernel
theorem dX5_beat_4 : decode cX5_beat 4 = .ok (.dup, 1) := by decide +kernel
theorem dX5_beat_5 : decode cX5_beat 5 = .ok (.getfield 31, 3) := by decide +kernel
theorem dX5_beat_8 : decode cX5_beat 8 = .ok (.iconst 1, 1) := by decide +kernel
theorem dX5_beat_9 : decode cX5_beat 9 = .ok (.iadd, 1) := by decide +kernel
theorem dX5_beat_10 : decode cX5_beat 10 = .ok (.putfield 31, 3) := by decide +kernel
theorem dX5_beat_13 : decode cX5_beat 13 = .ok (.aload_n 0, 1) := by decide +kernel
theorem dX5_beat_14 : decode cX5_beat 14 = .ok (.getfield 23, 3) := by decide +kernel
theorem dX5_beat_17 : decode cX5_beat 17 = .ok (.getfield 37, 3) := by decide +kernel
theorem dX5_beat_20 : decode cX5_beat 20 = .ok (.iconst 0, 1) := by decide +kernel
theorem dX5_beat_21 : decode cX5_beat 21 = .ok (.aload_n 0, 1) := by decide +kernel
theorem dX5_beat_22 : decode cX5_beat 22 = .ok (.getfield 23, 3) := by decide +kernel
theorem dX5_beat_25 : decode cX5_beat 25 = .ok (.getfield 31, 3) := by decide +kernel
theorem dX5_beat_28 : decode cX5_beat 28 = .ok (.iastore, 1) := by decide +kernel
theorem dX5_beat_29 : decode cX5_beat 29 = .ok (.aload_n 0, 1) := by decide +kernel
theorem dX5_beat_30 : decode cX5_beat 30 = .ok (.getfield 23, 3) := by decide +kernel
theorem dX5_beat_33 : decode cX5_beat 33 = .ok (.getfield 40, 3) := by decide +kernel
theorem dX5_beat_36 : decode cX5_beat 36 = .ok (.ifCond .le 17, 3) := by decide +kernel
theorem dX5_beat_39 : decode cX5_beat 39 = .ok (.aload_n 0, 1) := by decide +kernel
theorem dX5_beat_40 : decode cX5_beat 40 = .ok (.getfield 23, 3) := by decide +kernel
theorem dX5_beat_43 : decode cX5_beat 43 = .ok (.invokevirtual 43, 3) := by decide +kernel
theorem dX5_beat_46 : decode cX5_beat 46 = .ok (.ifCond .ne 7, 3) := by decide +kernel
theorem dX5_beat_49 : decode cX5_beat 49 = .ok (.aload_n 0, 1) := by decide +kernel
theorem dX5_beat_50 : decode cX5_beat 50 = .ok (.invokevirtual 47, 3) := by decide +kernel
theorem dX5_beat_53 : decode cX5_beat 53 = .ok (.iconst 0, 1) := by decide +kernel
theorem dX5_beat_54 : decode cX5_beat 54 = .ok (.istore_n 1, 1) := by decide +kernel
theorem dX5_beat_55 : decode cX5_beat 55 = .ok (.iconst 0, 1) := by decide +kernel
theorem dX5_beat_56 : decode cX5_beat 56 = .ok (.istore_n 2, 1) := by decide +kernel
theorem dX5_beat_57 : decode cX5_beat 57 = .ok (.iload_n 2, 1) := by decide +kernel
theorem dX5_beat_58 : decode cX5_beat 58 = .ok (.bipush 8, 2) := by decide +kernel
theorem dX5_beat_60 : decode cX5_beat 60 = .ok (.if_icmp .ge 25, 3) := by decide +kernel
theorem dX5_beat_63 : decode cX5_beat 63 = .ok (.iload_n 1, 1) := by decide +kernel
theorem dX5_beat_64 : decode cX5_beat 64 = .ok (.aload_n 0, 1) := by decide +kernel
theorem dX5_beat_65 : decode cX5_beat 65 = .ok (.aload_n 0, 1) := by decide +kernel
theorem dX5_beat_66 : decode cX5_beat 66 = .ok (.getfield 23, 3) := by decide +kernel
theorem dX5_beat_69 : decode cX5_beat 69 = .ok (.getfield 50, 3) := by decide +kernel
theorem dX5_beat_72 : decode cX5_beat 72 = .ok (.iload_n 2, 1) := by decide +kernel
theorem dX5_beat_73 : decode cX5_beat 73 = .ok (.aaload, 1) := by decide +kernel
theorem dX5_beat_74 : decode cX5_beat 74 = .ok (.invokevirtual 54, 3) := by decide +kernel
theorem dX5_beat_77 : decode cX5_beat 77 = .ok (.iadd, 1) := by decide +kernel
theorem dX5_beat_78 : decode cX5_beat 78 = .ok (.istore_n 1, 1) := by decide +kernel
theorem dX5_beat_79 : decode cX5_beat 79 = .ok (.iinc 2 1, 3) := by decide +kernel
theorem dX5_beat_82 : decode cX5_beat 82 = .ok (.goto (-25), 3) := by decide +kernel
theorem dX5_beat_85 : decode cX5_beat 85 = .ok (.aload_n 0, 1) := by decide +kernel
theorem dX5_beat_86 : decode cX5_beat 86 = .ok (.getfield 27, 3) := by decide +kernel
theorem dX5_beat_89 : decode cX5_beat 89 = .ok (.invokevirtual 58, 3) := by decide +kernel
theorem dX5_beat_92 : decode cX5_beat 92 = .ok (.iload_n 1, 1) := by decide +kernel
theorem dX5_beat_93 : decode cX5_beat 93 = .ok (.ireturn, 1) := by decide +kernel
theorem dX5_startScript_0 : decode cX5_startScript 0 = .ok (.aload_n 0, 1) := by decide +kernel
theorem dX5_startScript_1 : decode cX5_startScript 1 = .ok (.getfield 15, 3) := by decide +kernel
theorem dX5_startScript_4 : decode cX5_startScript 4 = .ok (.getfield 63, 3) := by decide +kernel
theorem dX5_startScript_7 : decode cX5_startScript 7 = .ok (.iload_n 1, 1) := by decide +kernel
theorem dX5_startScript_8 : decode cX5_startScript 8 = .ok (.invokevirtual 69, 3) := by decide +kernel
theorem dX5_startScript_11 : decode cX5_startScript 11 = .ok (.ifCond .ne 5, 3) := by decide +kernel
theorem dX5_startScript_14 : decode cX5_startScript 14 = .ok (.iconst (-1), 1) := by decide +kernel
theorem dX5_startScript_15 : decode cX5_startScript 15 = .ok (.ireturn, 1) := by decide +kernel
theorem dX5_startScript_16 : decode cX5_startScript 16 = .ok (.aload_n 0, 1) := by decide +kernel
theorem dX5_startScript_17 : decode cX5_startScript 17 = .ok (.getfield 23, 3) := by decide +kernel
theorem dX5_startScript_20 : decode cX5_startScript 20 = .ok (.invokevirtual 75, 3) := by decide +kernel
theorem dX5_startScript_23 : decode cX5_startScript 23 = .ok (.istore_n 3, 1) := by decide +kernel
theorem dX5_startScript_24 : decode cX5_startScript 24 = .ok (.iload_n 3, 1) := by decide +kernel
theorem dX5_startScript_25 : decode cX5_startScript 25 = .ok (.iconst (-1), 1) := by decide +kernel
theorem dX5_startScript_26 : decode cX5_startScript 26 = .ok (.if_icmp .ne 18, 3) := by decide +kernel
theorem dX5_startScript_29 : decode cX5_startScript 29 = .ok (.aload_n 0, 1) := by decide +kernel
theorem dX5_startScript_30 : decode cX5_startScript 30 = .ok (.getfield 23, 3) := by decide +kernel
theorem dX5_startScript_33 : decode cX5_startScript 33 = .ok (.dup, 1) := by decide +kernel
theorem dX5_startScript_34 : decode cX5_startScript 34 = .ok (.getfield 79, 3) := by decide +kernel
theorem dX5_startScript_37 : decode cX5_startScript 37 = .ok (.iconst 1, 1) := by decide +kernel
theorem dX5_startScript_38 : decode cX5_startScript 38 = .ok (.iadd, 1) := by decide +kernel
theorem dX5_startScript_39 : decode cX5_startScript 39 = .ok (.putfield 79, 3) := by decide +kernel
theorem dX5_startScript_42 : decode cX5_startScript 42 = .ok (.iconst (-1), 1) := by decide +kernel
theorem dX5_startScript_43 : decode cX5_startScript 43 = .ok (.ireturn, 1) := by decide +kernel
theorem dX5_startScript_44 : decode cX5_startScript 44 = .ok (.aload_n 0, 1) := by decide +kernel
theorem dX5_startScript_45 : decode cX5_startScript 45 = .ok (.getfield 23, 3) := by decide +kernel
theorem dX5_startScript_48 : decode cX5_startScript 48 = .ok (.getfield 50, 3) := by decide +kernel
theorem dX5_startScript_51 : decode cX5_startScript 51 = .ok (.iload_n 3, 1) := by decide +kernel
theorem dX5_startScript_52 : decode cX5_startScript 52 = .ok (.aaload, 1) := by decide +kernel
theorem dX5_startScript_53 : decode cX5_startScript 53 = .ok (.iload_n 1, 1) := by decide +kernel
theorem dX5_startScript_54 : decode cX5_startScript 54 = .ok (.iload_n 2, 1) := by decide +kernel
theorem dX5_startScript_55 : decode cX5_startScript 55 = .ok (.invokevirtual 82, 3) := by decide +kernel
theorem dX5_startScript_58 : decode cX5_startScript 58 = .ok (.iload_n 3, 1) := by decide +kernel
theorem dX5_startScript_59 : decode cX5_startScript 59 = .ok (.ireturn, 1) := by decide +kernel
theorem dX5_actOnSentence_0 : decode cX5_actOnSentence 0 = .ok (.aload_n 0, 1) := by decide +kernel
theorem dX5_actOnSentence_1 : decode cX5_actOnSentence 1 = .ok (.getfield 23, 3) := by decide +kernel
theorem dX5_actOnSentence_4 : decode cX5_actOnSentence 4 = .ok (.invokevirtual 88, 3) := by decide +kernel
theorem dX5_actOnSentence_7 : decode cX5_actOnSentence 7 = .ok (.aload_n 0, 1) := by decide +kernel
theorem dX5_actOnSentence_8 : decode cX5_actOnSentence 8 = .ok (.getfield 23, 3) := by decide +kernel
theorem dX5_actOnSentence_11 : decode cX5_actOnSentence 11 = .ok (.getfield 37, 3) := by decide +kernel
theorem dX5_actOnSentence_14 : decode cX5_actOnSentence 14 = .ok (.iconst 1, 1) := by decide +kernel
theorem dX5_actOnSentence_15 : decode cX5_actOnSentence 15 = .ok (.iaload, 1) := by decide +kernel
theorem dX5_actOnSentence_16 : decode cX5_actOnSentence 16 = .ok (.istore_n 1, 1) := by decide +kernel
theorem dX5_actOnSentence_17 : decode cX5_actOnSentence 17 = .ok (.aload_n 0, 1) := by decide +kernel
theorem dX5_actOnSentence_18 : decode cX5_actOnSentence 18 = .ok (.getfield 23, 3) := by decide +kernel
theorem dX5_actOnSentence_21 : decode cX5_actOnSentence 21 = .ok (.getfield 37, 3) := by decide +kernel
theorem dX5_actOnSentence_24 : decode cX5_actOnSentence 24 = .ok (.iconst 2, 1) := by decide +kernel
theorem dX5_actOnSentence_25 : decode cX5_actOnSentence 25 = .ok (.iaload, 1) := by decide +kernel
theorem dX5_actOnSentence_26 : decode cX5_actOnSentence 26 = .ok (.istore_n 2, 1) := by decide +kernel
theorem dX5_actOnSentence_27 : decode cX5_actOnSentence 27 = .ok (.aload_n 0, 1) := by decide +kernel
theorem dX5_actOnSentence_28 : decode cX5_actOnSentence 28 = .ok (.getfield 15, 3) := by decide +kernel
theorem dX5_actOnSentence_31 : decode cX5_actOnSentence 31 = .ok (.iload_n 2, 1) := by decide +kernel
theorem dX5_actOnSentence_32 : decode cX5_actOnSentence 32 = .ok (.iload_n 1, 1) := by decide +kernel
theorem dX5_actOnSentence_33 : decode cX5_actOnSentence 33 = .ok (.invokevirtual 91, 3) := by decide +kernel
theorem dX5_actOnSentence_36 : decode cX5_actOnSentence 36 = .ok (.istore_n 3, 1) := by decide +kernel
theorem dX5_actOnSentence_37 : decode cX5_actOnSentence 37 = .ok (.iload_n 3, 1) := by decide +kernel
theorem dX5_actOnSentence_38 : decode cX5_actOnSentence 38 = .ok (.ifCond .ne 15, 3) := by decide +kernel
theorem dX5_actOnSentence_41 : decode cX5_actOnSentence 41 = .ok (.aload_n 0, 1) := by decide +kernel
theorem dX5_actOnSentence_42 : decode cX5_actOnSentence 42 = .ok (.getfield 15, 3) := by decide +kernel
theorem dX5_actOnSentence_45 : decode cX5_actOnSentence 45 = .ok (.iload_n 2, 1) := by decide +kernel
theorem dX5_actOnSentence_46 : decode cX5_actOnSentence 46 = .ok (.sipush 255, 3) := by decide +kernel
theorem dX5_actOnSentence_49 : decode cX5_actOnSentence 49 = .ok (.invokevirtual 91, 3) := by decide +kernel
theorem dX5_actOnSentence_52 : decode cX5_actOnSentence 52 = .ok (.istore_n 3, 1) := by decide +kernel
theorem dX5_actOnSentence_53 : decode cX5_actOnSentence 53 = .ok (.aload_n 0, 1) := by decide +kernel
theorem dX5_actOnSentence_54 : decode cX5_actOnSentence 54 = .ok (.iload_n 3, 1) := by decide +kernel
theorem dX5_actOnSentence_55 : decode cX5_actOnSentence 55 = .ok (.iconst 1, 1) := by decide +kernel
theorem dX5_actOnSentence_56 : decode cX5_actOnSentence 56 = .ok (.invokevirtual 95, 3) := by decide +kernel
theorem dX5_actOnSentence_59 : decode cX5_actOnSentence 59 = .ok (.pop, 1) := by decide +kernel
theorem dX5_actOnSentence_60 : decode cX5_actOnSentence 60 = .ok (.return_, 1) := by decide +kernel
theorem dX5_turn_0 : decode cX5_turn 0 = .ok (.aload_n 0, 1) := by decide +kernel
theorem dX5_turn_1 : decode cX5_turn 1 = .ok (.aload_n 1, 1) := by decide +kernel
theorem dX5_turn_2 : decode cX5_turn 2 = .ok (.invokevirtual 99, 3) := by decide +kernel
theorem dX5_turn_5 : decode cX5_turn 5 = .ok (.ifCond .ne 5, 3) := by decide +kernel
theorem dX5_turn_8 : decode cX5_turn 8 = .ok (.iconst 0, 1) := by decide +kernel
theorem dX5_turn_9 : decode cX5_turn 9 = .ok (.ireturn, 1) := by decide +kernel
theorem dX5_turn_10 : decode cX5_turn 10 = .ok (.aload_n 0, 1) := by decide +kernel
theorem dX5_turn_11 : decode cX5_turn 11 = .ok (.aload_n 1, 1) := by decide +kernel
theorem dX5_turn_12 : decode cX5_turn 12 = .ok (.getfield 103, 3) := by decide +kernel
theorem dX5_turn_15 : decode cX5_turn 15 = .ok (.invokevirtual 106, 3) := by decide +kernel
theorem dX5_turn_18 : decode cX5_turn 18 = .ok (.iconst 0, 1) := by decide +kernel
theorem dX5_turn_19 : decode cX5_turn 19 = .ok (.istore_n 2, 1) := by decide +kernel
theorem dX5_turn_20 : decode cX5_turn 20 = .ok (.iload_n 2, 1) := by decide +kernel
theorem dX5_turn_21 : decode cX5_turn 21 = .ok (.sipush 300, 3) := by decide +kernel
theorem dX5_turn_24 : decode cX5_turn 24 = .ok (.if_icmp .ge 67, 3) := by decide +kernel
theorem dX5_turn_27 : decode cX5_turn 27 = .ok (.aload_n 0, 1) := by decide +kernel
theorem dX5_turn_28 : decode cX5_turn 28 = .ok (.aload_n 1, 1) := by decide +kernel
theorem dX5_turn_29 : decode cX5_turn 29 = .ok (.invokevirtual 110, 3) := by decide +kernel
theorem dX5_turn_32 : decode cX5_turn 32 = .ok (.istore_n 3, 1) := by decide +kernel
theorem dX5_turn_33 : decode cX5_turn 33 = .ok (.iload_n 3, 1) := by decide +kernel
theorem dX5_turn_34 : decode cX5_turn 34 = .ok (.iconst (-1), 1) := by decide +kernel
theorem dX5_turn_35 : decode cX5_turn 35 = .ok (.if_icmp .ne 7, 3) := by decide +kernel
theorem dX5_turn_38 : decode cX5_turn 38 = .ok (.iconst 2, 1) := by decide +kernel
theorem dX5_turn_39 : decode cX5_turn 39 = .ok (.goto 9, 3) := by decide +kernel
theorem dX5_turn_42 : decode cX5_turn 42 = .ok (.aload_n 0, 1) := by decide +kernel
theorem dX5_turn_43 : decode cX5_turn 43 = .ok (.aload_n 1, 1) := by decide +kernel
theorem dX5_turn_44 : decode cX5_turn 44 = .ok (.iload_n 3, 1) := by decide +kernel
theorem dX5_turn_45 : decode cX5_turn 45 = .ok (.invokevirtual 113, 3) := by decide +kernel
theorem dX5_turn_48 : decode cX5_turn 48 = .ok (.istore 4, 2) := by decide +kernel
theorem dX5_turn_50 : decode cX5_turn 50 = .ok (.iload 4, 2) := by decide +kernel
theorem dX5_turn_52 : decode cX5_turn 52 = .ok (.iconst 2, 1) := by decide +kernel
theorem dX5_turn_53 : decode cX5_turn 53 = .ok (.if_icmp .ne 22, 3) := by decide +kernel
theorem dX5_turn_56 : decode cX5_turn 56 = .ok (.aload_n 1, 1) := by decide +kernel
theorem dX5_turn_57 : decode cX5_turn 57 = .ok (.invokevirtual 117, 3) := by decide +kernel
theorem dX5_turn_60 : decode cX5_turn 60 = .ok (.aload_n 0, 1) := by decide +kernel
theorem dX5_turn_61 : decode cX5_turn 61 = .ok (.getfield 23, 3) := by decide +kernel
theorem dX5_turn_64 : decode cX5_turn 64 = .ok (.dup, 1) := by decide +kernel
theorem dX5_turn_65 : decode cX5_turn 65 = .ok (.getfield 120, 3) := by decide +kernel
theorem dX5_turn_68 : decode cX5_turn 68 = .ok (.iconst 1, 1) := by decide +kernel
theorem dX5_turn_69 : decode cX5_turn 69 = .ok (.iadd, 1) := by decide +kernel
theorem dX5_turn_70 : decode cX5_turn 70 = .ok (.putfield 120, 3) := by decide +kernel
theorem dX5_turn_73 : decode cX5_turn 73 = .ok (.iload_n 2, 1) := by decide +kernel
theorem dX5_turn_74 : decode cX5_turn 74 = .ok (.ireturn, 1) := by decide +kernel
theorem dX5_turn_75 : decode cX5_turn 75 = .ok (.iload 4, 2) := by decide +kernel
theorem dX5_turn_77 : decode cX5_turn 77 = .ok (.iconst 1, 1) := by decide +kernel
theorem dX5_turn_78 : decode cX5_turn 78 = .ok (.if_icmp .ne 7, 3) := by decide +kernel
theorem dX5_turn_81 : decode cX5_turn 81 = .ok (.iload_n 2, 1) := by decide +kernel
theorem dX5_turn_82 : decode cX5_turn 82 = .ok (.iconst 1, 1) := by decide +kernel
theorem dX5_turn_83 : decode cX5_turn 83 = .ok (.iadd, 1) := by decide +kernel
theorem dX5_turn_84 : decode cX5_turn 84 = .ok (.ireturn, 1) := by decide +kernel
theorem dX5_turn_85 : decode cX5_turn 85 = .ok (.iinc 2 1, 3) := by decide +kernel
theorem dX5_turn_88 : decode cX5_turn 88 = .ok (.goto (-68), 3) := by decide +kernel
theorem dX5_turn_91 : decode cX5_turn 91 = .ok (.sipush 300, 3) := by decide +kernel
theorem dX5_turn_94 : decode cX5_turn 94 = .ok (.ireturn, 1) := by decide +kernel
theorem dX5_comesToOrders_0 : decode cX5_comesToOrders 0 = .ok (.aload_n 1, 1) := by decide +kernel
theorem dX5_comesToOrders_1 : decode cX5_comesToOrders 1 = .ok (.invokevirtual 123, 3) := by decide +kernel
theorem dX5_comesToOrders_4 : decode cX5_comesToOrders 4 = .ok (.ifCond .eq 10, 3) := by decide +kernel
theorem dX5_comesToOrders_7 : decode cX5_comesToOrders 7 = .ok (.aload_n 1, 1) := by decide +kernel
theorem dX5_comesToOrders_8 : decode cX5_comesToOrders 8 = .ok (.getfield 126, 3) := by decide +kernel
theorem dX5_comesToOrders_11 : decode cX5_comesToOrders 11 = .ok (.ifCond .eq 5, 3) := by decide +kernel
theorem dX5_comesToOrders_14 : decode cX5_comesToOrders 14 = .ok (.iconst 0, 1) := by decide +kernel
theorem dX5_comesToOrders_15 : decode cX5_comesToOrders 15 = .ok (.ireturn, 1) := by decide +kernel
theorem dX5_comesToOrders_16 : decode cX5_comesToOrders 16 = .ok (.aload_n 1, 1) := by decide +kernel
theorem dX5_comesToOrders_17 : decode cX5_comesToOrders 17 = .ok (.getfield 130, 3) := by decide +kernel
theorem dX5_comesToOrders_20 : decode cX5_comesToOrders 20 = .ok (.ifCond .le 22, 3) := by decide +kernel
theorem dX5_comesToOrders_23 : decode cX5_comesToOrders 23 = .ok (.aload_n 1, 1) := by decide +kernel
theorem dX5_comesToOrders_24 : decode cX5_comesToOrders 24 = .ok (.dup, 1) := by decide +kernel
theorem dX5_comesToOrders_25 : decode cX5_comesToOrders 25 = .ok (.getfield 130, 3) := by decide +kernel
theorem dX5_comesToOrders_28 : decode cX5_comesToOrders 28 = .ok (.iconst 1, 1) := by decide +kernel
theorem dX5_comesToOrders_29 : decode cX5_comesToOrders 29 = .ok (.isub, 1) := by decide +kernel
theorem dX5_comesToOrders_30 : decode cX5_comesToOrders 30 = .ok (.putfield 130, 3) := by decide +kernel
theorem dX5_comesToOrders_33 : decode cX5_comesToOrders 33 = .ok (.aload_n 1, 1) := by decide +kernel
theorem dX5_comesToOrders_34 : decode cX5_comesToOrders 34 = .ok (.getfield 130, 3) := by decide +kernel
theorem dX5_comesToOrders_37 : decode cX5_comesToOrders 37 = .ok (.ifCond .le 5, 3) := by decide +kernel
theorem dX5_comesToOrders_40 : decode cX5_comesToOrders 40 = .ok (.iconst 0, 1) := by decide +kernel
theorem dX5_comesToOrders_41 : decode cX5_comesToOrders 41 = .ok (.ireturn, 1) := by decide +kernel
theorem dX5_comesToOrders_42 : decode cX5_comesToOrders 42 = .ok (.aload_n 0, 1) := by decide +kernel
theorem dX5_comesToOrders_43 : decode cX5_comesToOrders 43 = .ok (.getfield 15, 3) := by decide +kernel
theorem dX5_comesToOrders_46 : decode cX5_comesToOrders 46 = .ok (.getfield 133, 3) := by decide +kernel
theorem dX5_comesToOrders_49 : decode cX5_comesToOrders 49 = .ok (.aload_n 1, 1) := by decide +kernel
theorem dX5_comesToOrders_50 : decode cX5_comesToOrders 50 = .ok (.getfield 136, 3) := by decide +kernel
theorem dX5_comesToOrders_53 : decode cX5_comesToOrders 53 = .ok (.invokevirtual 69, 3) := by decide +kernel
theorem dX5_comesToOrders_56 : decode cX5_comesToOrders 56 = .ok (.ifCond .eq 23, 3) := by decide +kernel
theorem dX5_comesToOrders_59 : decode cX5_comesToOrders 59 = .ok (.aload_n 0, 1) := by decide +kernel
theorem dX5_comesToOrders_60 : decode cX5_comesToOrders 60 = .ok (.getfield 23, 3) := by decide +kernel
theorem dX5_comesToOrders_63 : decode cX5_comesToOrders 63 = .ok (.getfield 139, 3) := by decide +kernel
theorem dX5_comesToOrders_66 : decode cX5_comesToOrders 66 = .ok (.aload_n 1, 1) := by decide +kernel
theorem dX5_comesToOrders_67 : decode cX5_comesToOrders 67 = .ok (.getfield 136, 3) := by decide +kernel
theorem dX5_comesToOrders_70 : decode cX5_comesToOrders 70 = .ok (.aaload, 1) := by decide +kernel
theorem dX5_comesToOrders_71 : decode cX5_comesToOrders 71 = .ok (.getfield 142, 3) := by decide +kernel
theorem dX5_comesToOrders_74 : decode cX5_comesToOrders 74 = .ok (.ifCond .eq 5, 3) := by decide +kernel
theorem dX5_comesToOrders_77 : decode cX5_comesToOrders 77 = .ok (.iconst 0, 1) := by decide +kernel
theorem dX5_comesToOrders_78 : decode cX5_comesToOrders 78 = .ok (.ireturn, 1) := by decide +kernel
theorem dX5_comesToOrders_79 : decode cX5_comesToOrders 79 = .ok (.aload_n 1, 1) := by decide +kernel
theorem dX5_comesToOrders_80 : decode cX5_comesToOrders 80 = .ok (.iconst 0, 1) := by decide +kernel
theorem dX5_comesToOrders_81 : decode cX5_comesToOrders 81 = .ok (.putfield 136, 3) := by decide +kernel
theorem dX5_comesToOrders_84 : decode cX5_comesToOrders 84 = .ok (.iconst 1, 1) := by decide +kernel
theorem dX5_comesToOrders_85 : decode cX5_comesToOrders 85 = .ok (.ireturn, 1) := by decide +kernel
theorem dX5_openCode_0 : decode cX5_openCode 0 = .ok (.aload_n 0, 1) := by decide +kernel
theorem dX5_openCode_1 : decode cX5_openCode 1 = .ok (.iconst 0, 1) := by decide +kernel
theorem dX5_openCode_2 : decode cX5_openCode 2 = .ok (.putfield 147, 3) := by decide +kernel
theorem dX5_openCode_5 : decode cX5_openCode 5 = .ok (.aload_n 0, 1) := by decide +kernel
theorem dX5_openCode_6 : decode cX5_openCode 6 = .ok (.iconst 0, 1) := by decide +kernel
theorem dX5_openCode_7 : decode cX5_openCode 7 = .ok (.putfield 150, 3) := by decide +kernel
theorem dX5_openCode_10 : decode cX5_openCode 10 = .ok (.aload_n 0, 1) := by decide +kernel
theorem dX5_openCode_11 : decode cX5_openCode 11 = .ok (.getfield 15, 3) := by decide +kernel
theorem dX5_openCode_14 : decode cX5_openCode 14 = .ok (.getfield 63, 3) := by decide +kernel
theorem dX5_openCode_17 : decode cX5_openCode 17 = .ok (.iload_n 1, 1) := by decide +kernel
theorem dX5_openCode_18 : decode cX5_openCode 18 = .ok (.invokevirtual 69, 3) := by decide +kernel
theorem dX5_openCode_21 : decode cX5_openCode 21 = .ok (.ifCond .eq 42, 3) := by decide +kernel
theorem dX5_openCode_24 : decode cX5_openCode 24 = .ok (.aload_n 0, 1) := by decide +kernel
theorem dX5_openCode_25 : decode cX5_openCode 25 = .ok (.aload_n 0, 1) := by decide +kernel
theorem dX5_openCode_26 : decode cX5_openCode 26 = .ok (.getfield 15, 3) := by decide +kernel
theorem dX5_openCode_29 : decode cX5_openCode 29 = .ok (.getfield 63, 3) := by decide +kernel
theorem dX5_openCode_32 : decode cX5_openCode 32 = .ok (.getfield 153, 3) := by decide +kernel
theorem dX5_openCode_35 : decode cX5_openCode 35 = .ok (.iload_n 1, 1) := by decide +kernel
theorem dX5_openCode_36 : decode cX5_openCode 36 = .ok (.iaload, 1) := by decide +kernel
theorem dX5_openCode_37 : decode cX5_openCode 37 = .ok (.iconst 1, 1) := by decide +kernel
theorem dX5_openCode_38 : decode cX5_openCode 38 = .ok (.iadd, 1) := by decide +kernel
theorem dX5_openCode_39 : decode cX5_openCode 39 = .ok (.putfield 147, 3) := by decide +kernel
theorem dX5_openCode_42 : decode cX5_openCode 42 = .ok (.aload_n 0, 1) := by decide +kernel
theorem dX5_openCode_43 : decode cX5_openCode 43 = .ok (.aload_n 0, 1) := by decide +kernel
theorem dX5_openCode_44 : decode cX5_openCode 44 = .ok (.getfield 15, 3) := by decide +kernel
theorem dX5_openCode_47 : decode cX5_openCode 47 = .ok (.getfield 63, 3) := by decide +kernel
theorem dX5_openCode_50 : decode cX5_openCode 50 = .ok (.getfield 156, 3) := by decide +kernel
theorem dX5_openCode_53 : decode cX5_openCode 53 = .ok (.iload_n 1, 1) := by decide +kernel
theorem dX5_openCode_54 : decode cX5_openCode 54 = .ok (.iaload, 1) := by decide +kernel
theorem dX5_openCode_55 : decode cX5_openCode 55 = .ok (.aload_n 0, 1) := by decide +kernel
theorem dX5_openCode_56 : decode cX5_openCode 56 = .ok (.getfield 147, 3) := by decide +kernel
theorem dX5_openCode_59 : decode cX5_openCode 59 = .ok (.isub, 1) := by decide +kernel
theorem dX5_openCode_60 : decode cX5_openCode 60 = .ok (.putfield 150, 3) := by decide +kernel
theorem dX5_openCode_63 : decode cX5_openCode 63 = .ok (.return_, 1) := by decide +kernel
theorem dX5_readOrder_0 : decode cX5_readOrder 0 = .ok (.aload_n 0, 1) := by decide +kernel
theorem dX5_readOrder_1 : decode cX5_readOrder 1 = .ok (.iconst 0, 1) := by decide +kernel
theorem dX5_readOrder_2 : decode cX5_readOrder 2 = .ok (.putfield 159, 3) := by decide +kernel
theorem dX5_readOrder_5 : decode cX5_readOrder 5 = .ok (.aload_n 0, 1) := by decide +kernel
theorem dX5_readOrder_6 : decode cX5_readOrder 6 = .ok (.aload_n 1, 1) := by decide +kernel
theorem dX5_readOrder_7 : decode cX5_readOrder 7 = .ok (.invokevirtual 162, 3) := by decide +kernel
theorem dX5_readOrder_10 : decode cX5_readOrder 10 = .ok (.istore_n 2, 1) := by decide +kernel
theorem dX5_readOrder_11 : decode cX5_readOrder 11 = .ok (.iload_n 2, 1) := by decide +kernel
theorem dX5_readOrder_12 : decode cX5_readOrder 12 = .ok (.ifCond .lt 9, 3) := by decide +kernel
theorem dX5_readOrder_15 : decode cX5_readOrder 15 = .ok (.iload_n 2, 1) := by decide +kernel
theorem dX5_readOrder_16 : decode cX5_readOrder 16 = .ok (.bipush 34, 2) := by decide +kernel
theorem dX5_readOrder_18 : decode cX5_readOrder 18 = .ok (.if_icmp .lt 5, 3) := by decide +kernel
theorem dX5_readOrder_21 : decode cX5_readOrder 21 = .ok (.iconst (-1), 1) := by decide +kernel
theorem dX5_readOrder_22 : decode cX5_readOrder 22 = .ok (.ireturn, 1) := by decide +kernel
theorem dX5_readOrder_23 : decode cX5_readOrder 23 = .ok (.getstatic 165, 3) := by decide +kernel
theorem dX5_readOrder_26 : decode cX5_readOrder 26 = .ok (.iload_n 2, 1) := by decide +kernel
theorem dX5_readOrder_27 : decode cX5_readOrder 27 = .ok (.iaload, 1) := by decide +kernel
theorem dX5_readOrder_28 : decode cX5_readOrder 28 = .ok (.ifCond .eq 12, 3) := by decide +kernel
theorem dX5_readOrder_31 : decode cX5_readOrder 31 = .ok (.aload_n 0, 1) := by decide +kernel
theorem dX5_readOrder_32 : decode cX5_readOrder 32 = .ok (.aload_n 0, 1) := by decide +kernel
theorem dX5_readOrder_33 : decode cX5_readOrder 33 = .ok (.aload_n 1, 1) := by decide +kernel
theorem dX5_readOrder_34 : decode cX5_readOrder 34 = .ok (.invokevirtual 168, 3) := by decide +kernel
theorem dX5_readOrder_37 : decode cX5_readOrder 37 = .ok (.putfield 171, 3) := by decide +kernel
theorem dX5_readOrder_40 : decode cX5_readOrder 40 = .ok (.iconst 0, 1) := by decide +kernel
theorem dX5_readOrder_41 : decode cX5_readOrder 41 = .ok (.istore_n 3, 1) := by decide +kernel
theorem dX5_readOrder_42 : decode cX5_readOrder 42 = .ok (.iload_n 3, 1) := by decide +kernel
theorem dX5_readOrder_43 : decode cX5_readOrder 43 = .ok (.getstatic 174, 3) := by decide +kernel
theorem dX5_readOrder_46 : decode cX5_readOrder 46 = .ok (.iload_n 2, 1) := by decide +kernel
theorem dX5_readOrder_47 : decode cX5_readOrder 47 = .ok (.iaload, 1) := by decide +kernel
theorem dX5_readOrder_48 : decode cX5_readOrder 48 = .ok (.if_icmp .ge 20, 3) := by decide +kernel
theorem dX5_readOrder_51 : decode cX5_readOrder 51 = .ok (.aload_n 0, 1) := by decide +kernel
theorem dX5_readOrder_52 : decode cX5_readOrder 52 = .ok (.getfield 9, 3) := by decide +kernel
theorem dX5_readOrder_55 : decode cX5_readOrder 55 = .ok (.iload_n 3, 1) := by decide +kernel
theorem dX5_readOrder_56 : decode cX5_readOrder 56 = .ok (.aload_n 0, 1) := by decide +kernel
theorem dX5_readOrder_57 : decode cX5_readOrder 57 = .ok (.aload_n 1, 1) := by decide +kernel
theorem dX5_readOrder_58 : decode cX5_readOrder 58 = .ok (.invokevirtual 177, 3) := by decide +kernel
theorem dX5_readOrder_61 : decode cX5_readOrder 61 = .ok (.iastore, 1) := by decide +kernel
theorem dX5_readOrder_62 : decode cX5_readOrder 62 = .ok (.iinc 3 1, 3) := by decide +kernel
theorem dX5_readOrder_65 : decode cX5_readOrder 65 = .ok (.goto (-23), 3) := by decide +kernel
theorem dX5_readOrder_68 : decode cX5_readOrder 68 = .ok (.getstatic 180, 3) := by decide +kernel
theorem dX5_readOrder_71 : decode cX5_readOrder 71 = .ok (.iload_n 2, 1) := by decide +kernel
theorem dX5_readOrder_72 : decode cX5_readOrder 72 = .ok (.iaload, 1) := by decide +kernel
theorem dX5_readOrder_73 : decode cX5_readOrder 73 = .ok (.ifCond .eq 12, 3) := by decide +kernel
theorem dX5_readOrder_76 : decode cX5_readOrder 76 = .ok (.aload_n 0, 1) := by decide +kernel
theorem dX5_readOrder_77 : decode cX5_readOrder 77 = .ok (.aload_n 0, 1) := by decide +kernel
theorem dX5_readOrder_78 : decode cX5_readOrder 78 = .ok (.aload_n 1, 1) := by decide +kernel
theorem dX5_readOrder_79 : decode cX5_readOrder 79 = .ok (.invokevirtual 183, 3) := by decide +kernel
theorem dX5_readOrder_82 : decode cX5_readOrder 82 = .ok (.putfield 186, 3) := by decide +kernel
theorem dX5_readOrder_85 : decode cX5_readOrder 85 = .ok (.aload_n 0, 1) := by decide +kernel
theorem dX5_readOrder_86 : decode cX5_readOrder 86 = .ok (.getfield 159, 3) := by decide +kernel
theorem dX5_readOrder_89 : decode cX5_readOrder 89 = .ok (.ifCond .eq 7, 3) := by decide +kernel
theorem dX5_readOrder_92 : decode cX5_readOrder 92 = .ok (.iconst (-1), 1) := by decide +kernel
theorem dX5_readOrder_93 : decode cX5_readOrder 93 = .ok (.goto 4, 3) := by decide +kernel
theorem dX5_readOrder_96 : decode cX5_readOrder 96 = .ok (.iload_n 2, 1) := by decide +kernel
theorem dX5_readOrder_97 : decode cX5_readOrder 97 = .ok (.ireturn, 1) := by decide +kernel
theorem dX5_nextByte_0 : decode cX5_nextByte 0 = .ok (.aload_n 1, 1) := by decide +kernel
theorem dX5_nextByte_1 : decode cX5_nextByte 1 = .ok (.getfield 189, 3) := by decide +kernel
theorem dX5_nextByte_4 : decode cX5_nextByte 4 = .ok (.ifCond .lt 14, 3) := by decide +kernel
theorem dX5_nextByte_7 : decode cX5_nextByte 7 = .ok (.aload_n 1, 1) := by decide +kernel
theorem dX5_nextByte_8 : decode cX5_nextByte 8 = .ok (.getfield 189, 3) := by decide +kernel
theorem dX5_nextByte_11 : decode cX5_nextByte 11 = .ok (.aload_n 0, 1) := by decide +kernel
theorem dX5_nextByte_12 : decode cX5_nextByte 12 = .ok (.getfield 150, 3) := by decide +kernel
theorem dX5_nextByte_15 : decode cX5_nextByte 15 = .ok (.if_icmp .lt 10, 3) := by decide +kernel
theorem dX5_nextByte_18 : decode cX5_nextByte 18 = .ok (.aload_n 0, 1) := by decide +kernel
theorem dX5_nextByte_19 : decode cX5_nextByte 19 = .ok (.iconst 1, 1) := by decide +kernel
theorem dX5_nextByte_20 : decode cX5_nextByte 20 = .ok (.putfield 159, 3) := by decide +kernel
theorem dX5_nextByte_23 : decode cX5_nextByte 23 = .ok (.iconst (-1), 1) := by decide +kernel
theorem dX5_nextByte_24 : decode cX5_nextByte 24 = .ok (.ireturn, 1) := by decide +kernel
theorem dX5_nextByte_25 : decode cX5_nextByte 25 = .ok (.aload_n 0, 1) := by decide +kernel
theorem dX5_nextByte_26 : decode cX5_nextByte 26 = .ok (.getfield 15, 3) := by decide +kernel
theorem dX5_nextByte_29 : decode cX5_nextByte 29 = .ok (.getfield 192, 3) := by decide +kernel
theorem dX5_nextByte_32 : decode cX5_nextByte 32 = .ok (.aload_n 0, 1) := by decide +kernel
theorem dX5_nextByte_33 : decode cX5_nextByte 33 = .ok (.getfield 147, 3) := by decide +kernel
theorem dX5_nextByte_36 : decode cX5_nextByte 36 = .ok (.aload_n 1, 1) := by decide +kernel
theorem dX5_nextByte_37 : decode cX5_nextByte 37 = .ok (.getfield 189, 3) := by decide +kernel
theorem dX5_nextByte_40 : decode cX5_nextByte 40 = .ok (.iadd, 1) := by decide +kernel
theorem dX5_nextByte_41 : decode cX5_nextByte 41 = .ok (.invokevirtual 196, 3) := by decide +kernel
theorem dX5_nextByte_44 : decode cX5_nextByte 44 = .ok (.istore_n 2, 1) := by decide +kernel
theorem dX5_nextByte_45 : decode cX5_nextByte 45 = .ok (.aload_n 1, 1) := by decide +kernel
theorem dX5_nextByte_46 : decode cX5_nextByte 46 = .ok (.dup, 1) := by decide +kernel
theorem dX5_nextByte_47 : decode cX5_nextByte 47 = .ok (.getfield 189, 3) := by decide +kernel
theorem dX5_nextByte_50 : decode cX5_nextByte 50 = .ok (.iconst 1, 1) := by decide +kernel
theorem dX5_nextByte_51 : decode cX5_nextByte 51 = .ok (.iadd, 1) := by decide +kernel
theorem dX5_nextByte_52 : decode cX5_nextByte 52 = .ok (.putfield 189, 3) := by decide +kernel
theorem dX5_nextByte_55 : decode cX5_nextByte 55 = .ok (.iload_n 2, 1) := by decide +kernel
theorem dX5_nextByte_56 : decode cX5_nextByte 56 = .ok (.ireturn, 1) := by decide +kernel
theorem dX5_readTarget_0 : decode cX5_readTarget 0 = .ok (.aload_n 0, 1) := by decide +kernel
theorem dX5_readTarget_1 : decode cX5_readTarget 1 = .ok (.aload_n 1, 1) := by decide +kernel
theorem dX5_readTarget_2 : decode cX5_readTarget 2 = .ok (.invokevirtual 162, 3) := by decide +kernel
theorem dX5_readTarget_5 : decode cX5_readTarget 5 = .ok (.istore_n 2, 1) := by decide +kernel
theorem dX5_readTarget_6 : decode cX5_readTarget 6 = .ok (.aload_n 0, 1) := by decide +kernel
theorem dX5_readTarget_7 : decode cX5_readTarget 7 = .ok (.iload_n 2, 1) := by decide +kernel
theorem dX5_readTarget_8 : decode cX5_readTarget 8 = .ok (.aload_n 0, 1) := by decide +kernel
theorem dX5_readTarget_9 : decode cX5_readTarget 9 = .ok (.aload_n 1, 1) := by decide +kernel
theorem dX5_readTarget_10 : decode cX5_readTarget 10 = .ok (.invokevirtual 162, 3) := by decide +kernel
theorem dX5_readTarget_13 : decode cX5_readTarget 13 = .ok (.invokevirtual 202, 3) := by decide +kernel
theorem dX5_readTarget_16 : decode cX5_readTarget 16 = .ok (.ireturn, 1) := by decide +kernel
theorem dX5_readValue_0 : decode cX5_readValue 0 = .ok (.aload_n 0, 1) := by decide +kernel
theorem dX5_readValue_1 : decode cX5_readValue 1 = .ok (.aload_n 1, 1) := by decide +kernel
theorem dX5_readValue_2 : decode cX5_readValue 2 = .ok (.invokevirtual 162, 3) := by decide +kernel
theorem dX5_readValue_5 : decode cX5_readValue 5 = .ok (.istore_n 2, 1) := by decide +kernel
theorem dX5_readValue_6 : decode cX5_readValue 6 = .ok (.aload_n 0, 1) := by decide +kernel
theorem dX5_readValue_7 : decode cX5_readValue 7 = .ok (.aload_n 1, 1) := by decide +kernel
theorem dX5_readValue_8 : decode cX5_readValue 8 = .ok (.invokevirtual 162, 3) := by decide +kernel
theorem dX5_readValue_11 : decode cX5_readValue 11 = .ok (.istore_n 3, 1) := by decide +kernel
theorem dX5_readValue_12 : decode cX5_readValue 12 = .ok (.iload_n 2, 1) := by decide +kernel
theorem dX5_readValue_13 : decode cX5_readValue 13 = .ok (.ifCond .ne 15, 3) := by decide +kernel
theorem dX5_readValue_16 : decode cX5_readValue 16 = .ok (.iload_n 3, 1) := by decide +kernel
theorem dX5_readValue_17 : decode cX5_readValue 17 = .ok (.bipush 8, 2) := by decide +kernel
theorem dX5_readValue_19 : decode cX5_readValue 19 = .ok (.ishl, 1) := by decide +kernel
theorem dX5_readValue_20 : decode cX5_readValue 20 = .ok (.aload_n 0, 1) := by decide +kernel
theorem dX5_readValue_21 : decode cX5_readValue 21 = .ok (.aload_n 1, 1) := by decide +kernel
theorem dX5_readValue_22 : decode cX5_readValue 22 = .ok (.invokevirtual 162, 3) := by decide +kernel
theorem dX5_readValue_25 : decode cX5_readValue 25 = .ok (.ior, 1) := by decide +kernel
theorem dX5_readValue_26 : decode cX5_readValue 26 = .ok (.i2s, 1) := by decide +kernel
theorem dX5_readValue_27 : decode cX5_readValue 27 = .ok (.ireturn, 1) := by decide +kernel
theorem dX5_readValue_28 : decode cX5_readValue 28 = .ok (.aload_n 0, 1) := by decide +kernel
theorem dX5_readValue_29 : decode cX5_readValue 29 = .ok (.iload_n 2, 1) := by decide +kernel
theorem dX5_readValue_30 : decode cX5_readValue 30 = .ok (.iload_n 3, 1) := by decide +kernel
theorem dX5_readValue_31 : decode cX5_readValue 31 = .ok (.invokevirtual 202, 3) := by decide +kernel
theorem dX5_readValue_34 : decode cX5_readValue 34 = .ok (.istore 4, 2) := by decide +kernel
theorem dX5_readValue_36 : decode cX5_readValue 36 = .ok (.iload 4, 2) := by decide +kernel
theorem dX5_readValue_38 : decode cX5_readValue 38 = .ok (.iconst (-1), 1) := by decide +kernel
theorem dX5_readValue_39 : decode cX5_readValue 39 = .ok (.if_icmp .ne 7, 3) := by decide +kernel
theorem dX5_readValue_42 : decode cX5_readValue 42 = .ok (.iconst 0, 1) := by decide +kernel
theorem dX5_readValue_43 : decode cX5_readValue 43 = .ok (.goto 10, 3) := by decide +kernel
theorem dX5_readValue_46 : decode cX5_readValue 46 = .ok (.aload_n 0, 1) := by decide +kernel
theorem dX5_readValue_47 : decode cX5_readValue 47 = .ok (.aload_n 1, 1) := by decide +kernel
theorem dX5_readValue_48 : decode cX5_readValue 48 = .ok (.iload 4, 2) := by decide +kernel
theorem dX5_readValue_50 : decode cX5_readValue 50 = .ok (.invokevirtual 205, 3) := by decide +kernel
theorem dX5_readValue_53 : decode cX5_readValue 53 = .ok (.ireturn, 1) := by decide +kernel
theorem dX5_readJump_0 : decode cX5_readJump 0 = .ok (.aload_n 0, 1) := by decide +kernel
theorem dX5_readJump_1 : decode cX5_readJump 1 = .ok (.aload_n 1, 1) := by decide +kernel
theorem dX5_readJump_2 : decode cX5_readJump 2 = .ok (.invokevirtual 162, 3) := by decide +kernel
theorem dX5_readJump_5 : decode cX5_readJump 5 = .ok (.istore_n 2, 1) := by decide +kernel
theorem dX5_readJump_6 : decode cX5_readJump 6 = .ok (.iload_n 2, 1) := by decide +kernel
theorem dX5_readJump_7 : decode cX5_readJump 7 = .ok (.bipush 8, 2) := by decide +kernel
theorem dX5_readJump_9 : decode cX5_readJump 9 = .ok (.ishl, 1) := by decide +kernel
theorem dX5_readJump_10 : decode cX5_readJump 10 = .ok (.aload_n 0, 1) := by decide +kernel
theorem dX5_readJump_11 : decode cX5_readJump 11 = .ok (.aload_n 1, 1) := by decide +kernel
theorem dX5_readJump_12 : decode cX5_readJump 12 = .ok (.invokevirtual 162, 3) := by decide +kernel
theorem dX5_readJump_15 : decode cX5_readJump 15 = .ok (.ior, 1) := by decide +kernel
theorem dX5_readJump_16 : decode cX5_readJump 16 = .ok (.istore_n 3, 1) := by decide +kernel
theorem dX5_readJump_17 : decode cX5_readJump 17 = .ok (.iload_n 3, 1) := by decide +kernel
theorem dX5_readJump_18 : decode cX5_readJump 18 = .ok (.ifCond .lt 11, 3) := by decide +kernel
theorem dX5_readJump_21 : decode cX5_readJump 21 = .ok (.iload_n 3, 1) := by decide +kernel
theorem dX5_readJump_22 : decode cX5_readJump 22 = .ok (.aload_n 0, 1) := by decide +kernel
theorem dX5_readJump_23 : decode cX5_readJump 23 = .ok (.getfield 150, 3) := by decide +kernel
theorem dX5_readJump_26 : decode cX5_readJump 26 = .ok (.if_icmp .lt 8, 3) := by decide +kernel
theorem dX5_readJump_29 : decode cX5_readJump 29 = .ok (.aload_n 0, 1) := by decide +kernel
theorem dX5_readJump_30 : decode cX5_readJump 30 = .ok (.iconst 1, 1) := by decide +kernel
theorem dX5_readJump_31 : decode cX5_readJump 31 = .ok (.putfield 159, 3) := by decide +kernel
theorem dX5_readJump_34 : decode cX5_readJump 34 = .ok (.iload_n 3, 1) := by decide +kernel
theorem dX5_readJump_35 : decode cX5_readJump 35 = .ok (.ireturn, 1) := by decide +kernel
theorem dX5_addressOf_0 : decode cX5_addressOf 0 = .ok (.iload_n 1, 1) := by decide +kernel
theorem dX5_addressOf_1 : decode cX5_addressOf 1 = .ok (.iconst 1, 1) := by decide +kernel
theorem dX5_addressOf_2 : decode cX5_addressOf 2 = .ok (.if_icmp .ne 15, 3) := by decide +kernel
theorem dX5_addressOf_5 : decode cX5_addressOf 5 = .ok (.iload_n 2, 1) := by decide +kernel
theorem dX5_addressOf_6 : decode cX5_addressOf 6 = .ok (.ifCond .lt 11, 3) := by decide +kernel
theorem dX5_addressOf_9 : decode cX5_addressOf 9 = .ok (.iload_n 2, 1) := by decide +kernel
theorem dX5_addressOf_10 : decode cX5_addressOf 10 = .ok (.bipush 64, 2) := by decide +kernel
theorem dX5_addressOf_12 : decode cX5_addressOf 12 = .ok (.if_icmp .ge 5, 3) := by decide +kernel
theorem dX5_addressOf_15 : decode cX5_addressOf 15 = .ok (.iload_n 2, 1) := by decide +kernel
theorem dX5_addressOf_16 : decode cX5_addressOf 16 = .ok (.ireturn, 1) := by decide +kernel
theorem dX5_addressOf_17 : decode cX5_addressOf 17 = .ok (.iload_n 1, 1) := by decide +kernel
theorem dX5_addressOf_18 : decode cX5_addressOf 18 = .ok (.iconst 2, 1) := by decide +kernel
theorem dX5_addressOf_19 : decode cX5_addressOf 19 = .ok (.if_icmp .ne 17, 3) := by decide +kernel
theorem dX5_addressOf_22 : decode cX5_addressOf 22 = .ok (.iload_n 2, 1) := by decide +kernel
theorem dX5_addressOf_23 : decode cX5_addressOf 23 = .ok (.ifCond .lt 13, 3) := by decide +kernel
theorem dX5_addressOf_26 : decode cX5_addressOf 26 = .ok (.iload_n 2, 1) := by decide +kernel
theorem dX5_addressOf_27 : decode cX5_addressOf 27 = .ok (.iconst 4, 1) := by decide +kernel
theorem dX5_addressOf_28 : decode cX5_addressOf 28 = .ok (.if_icmp .ge 8, 3) := by decide +kernel
theorem dX5_addressOf_31 : decode cX5_addressOf 31 = .ok (.bipush 64, 2) := by decide +kernel
theorem dX5_addressOf_33 : decode cX5_addressOf 33 = .ok (.iload_n 2, 1) := by decide +kernel
theorem dX5_addressOf_34 : decode cX5_addressOf 34 = .ok (.iadd, 1) := by decide +kernel
theorem dX5_addressOf_35 : decode cX5_addressOf 35 = .ok (.ireturn, 1) := by decide +kernel
theorem dX5_addressOf_36 : decode cX5_addressOf 36 = .ok (.aload_n 0, 1) := by decide +kernel
theorem dX5_addressOf_37 : decode cX5_addressOf 37 = .ok (.iconst 1, 1) := by decide +kernel
theorem dX5_addressOf_38 : decode cX5_addressOf 38 = .ok (.putfield 159, 3) := by decide +kernel
theorem dX5_addressOf_41 : decode cX5_addressOf 41 = .ok (.iconst (-1), 1) := by decide +kernel
theorem dX5_addressOf_42 : decode cX5_addressOf 42 = .ok (.ireturn, 1) := by decide +kernel
theorem dX5_fetch_0 : decode cX5_fetch 0 = .ok (.iload_n 2, 1) := by decide +kernel
theorem dX5_fetch_1 : decode cX5_fetch 1 = .ok (.bipush 64, 2) := by decide +kernel
theorem dX5_fetch_3 : decode cX5_fetch 3 = .ok (.if_icmp .ge 15, 3) := by decide +kernel
theorem dX5_fetch_6 : decode cX5_fetch 6 = .ok (.aload_n 0, 1) := by decide +kernel
theorem dX5_fetch_7 : decode cX5_fetch 7 = .ok (.getfield 23, 3) := by decide +kernel
theorem dX5_fetch_10 : decode cX5_fetch 10 = .ok (.getfield 37, 3) := by decide +kernel
theorem dX5_fetch_13 : decode cX5_fetch 13 = .ok (.iload_n 2, 1) := by decide +kernel
theorem dX5_fetch_14 : decode cX5_fetch 14 = .ok (.iaload, 1) := by decide +kernel
theorem dX5_fetch_15 : decode cX5_fetch 15 = .ok (.goto 12, 3) := by decide +kernel
theorem dX5_fetch_18 : decode cX5_fetch 18 = .ok (.aload_n 1, 1) := by decide +kernel
theorem dX5_fetch_19 : decode cX5_fetch 19 = .ok (.getfield 208, 3) := by decide +kernel
theorem dX5_fetch_22 : decode cX5_fetch 22 = .ok (.iload_n 2, 1) := by decide +kernel
theorem dX5_fetch_23 : decode cX5_fetch 23 = .ok (.bipush 64, 2) := by decide +kernel
theorem dX5_fetch_25 : decode cX5_fetch 25 = .ok (.isub, 1) := by decide +kernel
theorem dX5_fetch_26 : decode cX5_fetch 26 = .ok (.iaload, 1) := by decide +kernel
theorem dX5_fetch_27 : decode cX5_fetch 27 = .ok (.ireturn, 1) := by decide +kernel
theorem dX5_store_0 : decode cX5_store 0 = .ok (.aload_n 0, 1) := by decide +kernel
theorem dX5_store_1 : decode cX5_store 1 = .ok (.getfield 171, 3) := by decide +kernel
theorem dX5_store_4 : decode cX5_store 4 = .ok (.bipush 64, 2) := by decide +kernel
theorem dX5_store_6 : decode cX5_store 6 = .ok (.if_icmp .ge 19, 3) := by decide +kernel
theorem dX5_store_9 : decode cX5_store 9 = .ok (.aload_n 0, 1) := by decide +kernel
theorem dX5_store_10 : decode cX5_store 10 = .ok (.getfield 23, 3) := by decide +kernel
theorem dX5_store_13 : decode cX5_store 13 = .ok (.getfield 37, 3) := by decide +kernel
theorem dX5_store_16 : decode cX5_store 16 = .ok (.aload_n 0, 1) := by decide +kernel
theorem dX5_store_17 : decode cX5_store 17 = .ok (.getfield 171, 3) := by decide +kernel
theorem dX5_store_20 : decode cX5_store 20 = .ok (.iload_n 2, 1) := by decide +kernel
theorem dX5_store_21 : decode cX5_store 21 = .ok (.iastore, 1) := by decide +kernel
theorem dX5_store_22 : decode cX5_store 22 = .ok (.goto 16, 3) := by decide +kernel
theorem dX5_store_25 : decode cX5_store 25 = .ok (.aload_n 1, 1) := by decide +kernel
theorem dX5_store_26 : decode cX5_store 26 = .ok (.getfield 208, 3) := by decide +kernel
theorem dX5_store_29 : decode cX5_store 29 = .ok (.aload_n 0, 1) := by decide +kernel
theorem dX5_store_30 : decode cX5_store 30 = .ok (.getfield 171, 3) := by decide +kernel
theorem dX5_store_33 : decode cX5_store 33 = .ok (.bipush 64, 2) := by decide +kernel
theorem dX5_store_35 : decode cX5_store 35 = .ok (.isub, 1) := by decide +kernel
theorem dX5_store_36 : decode cX5_store 36 = .ok (.iload_n 2, 1) := by decide +kernel
theorem dX5_store_37 : decode cX5_store 37 = .ok (.iastore, 1) := by decide +kernel
theorem dX5_store_38 : decode cX5_store 38 = .ok (.iconst 0, 1) := by decide +kernel
theorem dX5_store_39 : decode cX5_store 39 = .ok (.ireturn, 1) := by decide +kernel
theorem dX5_perform_0 : decode cX5_perform 0 = .ok (.aload_n 0, 1) := by decide +kernel
theorem dX5_perform_1 : decode cX5_perform 1 = .ok (.getfield 9, 3) := by decide +kernel
theorem dX5_perform_4 : decode cX5_perform 4 = .ok (.iconst 0, 1) := by decide +kernel
theorem dX5_perform_5 : decode cX5_perform 5 = .ok (.iaload, 1) := by decide +kernel
theorem dX5_perform_6 : decode cX5_perform 6 = .ok (.istore_n 3, 1) := by decide +kernel
theorem dX5_perform_7 : decode cX5_perform 7 = .ok (.iload_n 2, 1) := by decide +kernel
theorem dX5_perform_8 : decode cX5_perform 8 = .ok (.tableswitch 311 0 33 #[152, 158, 160, 311, 311, 311, 311, 311, 167, 188, 209, 220, 229, 311, 311, 243, 311, 311, 311, 311, 250, 260, 283, 298, 298, 298, 298, 298, 311, 311, 311, 305, 311, 236], 152) := by decide +kernel
theorem dX5_perform_160 : decode cX5_perform 160 = .ok (.aload_n 1, 1) := by decide +kernel
theorem dX5_perform_161 : decode cX5_perform 161 = .ok (.invokevirtual 117, 3) := by decide +kernel
theorem dX5_perform_164 : decode cX5_perform 164 = .ok (.iconst 1, 1) := by decide +kernel
theorem dX5_perform_165 : decode cX5_perform 165 = .ok (.ireturn, 1) := by decide +kernel
theorem dX5_perform_166 : decode cX5_perform 166 = .ok (.iconst 1, 1) := by decide +kernel
theorem dX5_perform_167 : decode cX5_perform 167 = .ok (.ireturn, 1) := by decide +kernel
theorem dX5_perform_168 : decode cX5_perform 168 = .ok (.aload_n 0, 1) := by decide +kernel
theorem dX5_perform_169 : decode cX5_perform 169 = .ok (.aload_n 1, 1) := by decide +kernel
theorem dX5_perform_170 : decode cX5_perform 170 = .ok (.iconst 1, 1) := by decide +kernel
theorem dX5_perform_171 : decode cX5_perform 171 = .ok (.invokevirtual 211, 3) := by decide +kernel
theorem dX5_perform_174 : decode cX5_perform 174 = .ok (.ireturn, 1) := by decide +kernel
theorem dX5_perform_175 : decode cX5_perform 175 = .ok (.aload_n 0, 1) := by decide +kernel
theorem dX5_perform_176 : decode cX5_perform 176 = .ok (.aload_n 1, 1) := by decide +kernel
theorem dX5_perform_177 : decode cX5_perform 177 = .ok (.iload_n 3, 1) := by decide +kernel
theorem dX5_perform_178 : decode cX5_perform 178 = .ok (.aload_n 0, 1) := by decide +kernel
theorem dX5_perform_179 : decode cX5_perform 179 = .ok (.getfield 9, 3) := by decide +kernel
theorem dX5_perform_182 : decode cX5_perform 182 = .ok (.iconst 1, 1) := by decide +kernel
theorem dX5_perform_183 : decode cX5_perform 183 = .ok (.iaload, 1) := by decide +kernel
theorem dX5_perform_184 : decode cX5_perform 184 = .ok (.if_icmp .ne 7, 3) := by decide +kernel
theorem dX5_perform_187 : decode cX5_perform 187 = .ok (.iconst 1, 1) := by decide +kernel
theorem dX5_perform_188 : decode cX5_perform 188 = .ok (.goto 4, 3) := by decide +kernel
theorem dX5_perform_191 : decode cX5_perform 191 = .ok (.iconst 0, 1) := by decide +kernel
theorem dX5_perform_192 : decode cX5_perform 192 = .ok (.invokevirtual 211, 3) := by decide +kernel
theorem dX5_perform_195 : decode cX5_perform 195 = .ok (.ireturn, 1) := by decide +kernel
theorem dX5_perform_196 : decode cX5_perform 196 = .ok (.aload_n 0, 1) := by decide +kernel
theorem dX5_perform_197 : decode cX5_perform 197 = .ok (.aload_n 1, 1) := by decide +kernel
theorem dX5_perform_198 : decode cX5_perform 198 = .ok (.iload_n 3, 1) := by decide +kernel
theorem dX5_perform_199 : decode cX5_perform 199 = .ok (.aload_n 0, 1) := by decide +kernel
theorem dX5_perform_200 : decode cX5_perform 200 = .ok (.getfield 9, 3) := by decide +kernel
theorem dX5_perform_203 : decode cX5_perform 203 = .ok (.iconst 1, 1) := by decide +kernel
theorem dX5_perform_204 : decode cX5_perform 204 = .ok (.iaload, 1) := by decide +kernel
theorem dX5_perform_205 : decode cX5_perform 205 = .ok (.if_icmp .ge 7, 3) := by decide +kernel
theorem dX5_perform_208 : decode cX5_perform 208 = .ok (.iconst 1, 1) := by decide +kernel
theorem dX5_perform_209 : decode cX5_perform 209 = .ok (.goto 4, 3) := by decide +kernel
theorem dX5_perform_212 : decode cX5_perform 212 = .ok (.iconst 0, 1) := by decide +kernel
theorem dX5_perform_213 : decode cX5_perform 213 = .ok (.invokevirtual 211, 3) := by decide +kernel
theorem dX5_perform_216 : decode cX5_perform 216 = .ok (.ireturn, 1) := by decide +kernel
theorem dX5_perform_217 : decode cX5_perform 217 = .ok (.aload_n 1, 1) := by decide +kernel
theorem dX5_perform_218 : decode cX5_perform 218 = .ok (.iconst 0, 1) := by decide +kernel
theorem dX5_perform_219 : decode cX5_perform 219 = .ok (.iload_n 3, 1) := by decide +kernel
theorem dX5_perform_220 : decode cX5_perform 220 = .ok (.invokestatic 215, 3) := by decide +kernel
theorem dX5_perform_223 : decode cX5_perform 223 = .ok (.putfield 130, 3) := by decide +kernel
theorem dX5_perform_226 : decode cX5_perform 226 = .ok (.iconst 1, 1) := by decide +kernel
theorem dX5_perform_227 : decode cX5_perform 227 = .ok (.ireturn, 1) := by decide +kernel
theorem dX5_perform_228 : decode cX5_perform 228 = .ok (.aload_n 0, 1) := by decide +kernel
theorem dX5_perform_229 : decode cX5_perform 229 = .ok (.iload_n 3, 1) := by decide +kernel
theorem dX5_perform_230 : decode cX5_perform 230 = .ok (.iconst 0, 1) := by decide +kernel
theorem dX5_perform_231 : decode cX5_perform 231 = .ok (.invokevirtual 95, 3) := by decide +kernel
theorem dX5_perform_234 : decode cX5_perform 234 = .ok (.pop, 1) := by decide +kernel
theorem dX5_perform_235 : decode cX5_perform 235 = .ok (.iconst 0, 1) := by decide +kernel
theorem dX5_perform_236 : decode cX5_perform 236 = .ok (.ireturn, 1) := by decide +kernel
theorem dX5_perform_237 : decode cX5_perform 237 = .ok (.aload_n 0, 1) := by decide +kernel
theorem dX5_perform_238 : decode cX5_perform 238 = .ok (.aload_n 1, 1) := by decide +kernel
theorem dX5_perform_239 : decode cX5_perform 239 = .ok (.iload_n 3, 1) := by decide +kernel
theorem dX5_perform_240 : decode cX5_perform 240 = .ok (.invokevirtual 220, 3) := by decide +kernel
theorem dX5_perform_243 : decode cX5_perform 243 = .ok (.ireturn, 1) := by decide +kernel
theorem dX5_perform_244 : decode cX5_perform 244 = .ok (.aload_n 0, 1) := by decide +kernel
theorem dX5_perform_245 : decode cX5_perform 245 = .ok (.aload_n 1, 1) := by decide +kernel
theorem dX5_perform_246 : decode cX5_perform 246 = .ok (.iload_n 3, 1) := by decide +kernel
theorem dX5_perform_247 : decode cX5_perform 247 = .ok (.invokevirtual 223, 3) := by decide +kernel
theorem dX5_perform_250 : decode cX5_perform 250 = .ok (.ireturn, 1) := by decide +kernel
theorem dX5_perform_251 : decode cX5_perform 251 = .ok (.aload_n 0, 1) := by decide +kernel
theorem dX5_perform_252 : decode cX5_perform 252 = .ok (.aload_n 1, 1) := by decide +kernel
theorem dX5_perform_253 : decode cX5_perform 253 = .ok (.iload_n 3, 1) := by decide +kernel
theorem dX5_perform_254 : decode cX5_perform 254 = .ok (.invokevirtual 226, 3) := by decide +kernel
theorem dX5_perform_257 : decode cX5_perform 257 = .ok (.ireturn, 1) := by decide +kernel
theorem dX5_perform_258 : decode cX5_perform 258 = .ok (.aload_n 0, 1) := by decide +kernel
theorem dX5_perform_259 : decode cX5_perform 259 = .ok (.getfield 23, 3) := by decide +kernel
theorem dX5_perform_262 : decode cX5_perform 262 = .ok (.iload_n 3, 1) := by decide +kernel
theorem dX5_perform_263 : decode cX5_perform 263 = .ok (.invokevirtual 229, 3) := by decide +kernel
theorem dX5_perform_266 : decode cX5_perform 266 = .ok (.iconst 0, 1) := by decide +kernel
theorem dX5_perform_267 : decode cX5_perform 267 = .ok (.ireturn, 1) := by decide +kernel
theorem dX5_perform_268 : decode cX5_perform 268 = .ok (.aload_n 0, 1) := by decide +kernel
theorem dX5_perform_269 : decode cX5_perform 269 = .ok (.getfield 23, 3) := by decide +kernel
theorem dX5_perform_272 : decode cX5_perform 272 = .ok (.iload_n 3, 1) := by decide +kernel
theorem dX5_perform_273 : decode cX5_perform 273 = .ok (.aload_n 0, 1) := by decide +kernel
theorem dX5_perform_274 : decode cX5_perform 274 = .ok (.getfield 9, 3) := by decide +kernel
theorem dX5_perform_277 : decode cX5_perform 277 = .ok (.iconst 1, 1) := by decide +kernel
theorem dX5_perform_278 : decode cX5_perform 278 = .ok (.iaload, 1) := by decide +kernel
theorem dX5_perform_279 : decode cX5_perform 279 = .ok (.aload_n 0, 1) := by decide +kernel
theorem dX5_perform_280 : decode cX5_perform 280 = .ok (.getfield 9, 3) := by decide +kernel
theorem dX5_perform_283 : decode cX5_perform 283 = .ok (.iconst 2, 1) := by decide +kernel
theorem dX5_perform_284 : decode cX5_perform 284 = .ok (.iaload, 1) := by decide +kernel
theorem dX5_perform_285 : decode cX5_perform 285 = .ok (.invokevirtual 232, 3) := by decide +kernel
theorem dX5_perform_288 : decode cX5_perform 288 = .ok (.pop, 1) := by decide +kernel
theorem dX5_perform_289 : decode cX5_perform 289 = .ok (.iconst 0, 1) := by decide +kernel
theorem dX5_perform_290 : decode cX5_perform 290 = .ok (.ireturn, 1) := by decide +kernel
theorem dX5_perform_291 : decode cX5_perform 291 = .ok (.aload_n 0, 1) := by decide +kernel
theorem dX5_perform_292 : decode cX5_perform 292 = .ok (.aload_n 1, 1) := by decide +kernel
theorem dX5_perform_293 : decode cX5_perform 293 = .ok (.iload_n 3, 1) := by decide +kernel
theorem dX5_perform_294 : decode cX5_perform 294 = .ok (.ifCond .eq 7, 3) := by decide +kernel
theorem dX5_perform_297 : decode cX5_perform 297 = .ok (.iconst 1, 1) := by decide +kernel
theorem dX5_perform_298 : decode cX5_perform 298 = .ok (.goto 4, 3) := by decide +kernel
theorem dX5_perform_301 : decode cX5_perform 301 = .ok (.iconst 0, 1) := by decide +kernel
theorem dX5_perform_302 : decode cX5_perform 302 = .ok (.invokevirtual 236, 3) := by decide +kernel
theorem dX5_perform_305 : decode cX5_perform 305 = .ok (.ireturn, 1) := by decide +kernel
theorem dX5_perform_306 : decode cX5_perform 306 = .ok (.aload_n 0, 1) := by decide +kernel
theorem dX5_perform_307 : decode cX5_perform 307 = .ok (.aload_n 1, 1) := by decide +kernel
theorem dX5_perform_308 : decode cX5_perform 308 = .ok (.iload_n 2, 1) := by decide +kernel
theorem dX5_perform_309 : decode cX5_perform 309 = .ok (.invokevirtual 239, 3) := by decide +kernel
theorem dX5_perform_312 : decode cX5_perform 312 = .ok (.ireturn, 1) := by decide +kernel
theorem dX5_perform_313 : decode cX5_perform 313 = .ok (.aload_n 0, 1) := by decide +kernel
theorem dX5_perform_314 : decode cX5_perform 314 = .ok (.aload_n 1, 1) := by decide +kernel
theorem dX5_perform_315 : decode cX5_perform 315 = .ok (.invokevirtual 242, 3) := by decide +kernel
theorem dX5_perform_318 : decode cX5_perform 318 = .ok (.ireturn, 1) := by decide +kernel
theorem dX5_perform_319 : decode cX5_perform 319 = .ok (.getstatic 165, 3) := by decide +kernel
theorem dX5_perform_322 : decode cX5_perform 322 = .ok (.iload_n 2, 1) := by decide +kernel
theorem dX5_perform_323 : decode cX5_perform 323 = .ok (.iaload, 1) := by decide +kernel
theorem dX5_perform_324 : decode cX5_perform 324 = .ok (.ifCond .eq 12, 3) := by decide +kernel
theorem dX5_perform_327 : decode cX5_perform 327 = .ok (.aload_n 0, 1) := by decide +kernel
theorem dX5_perform_328 : decode cX5_perform 328 = .ok (.aload_n 1, 1) := by decide +kernel
theorem dX5_perform_329 : decode cX5_perform 329 = .ok (.iload_n 2, 1) := by decide +kernel
theorem dX5_perform_330 : decode cX5_perform 330 = .ok (.invokevirtual 245, 3) := by decide +kernel
theorem dX5_perform_333 : decode cX5_perform 333 = .ok (.goto 8, 3) := by decide +kernel
theorem dX5_perform_336 : decode cX5_perform 336 = .ok (.aload_n 0, 1) := by decide +kernel
theorem dX5_perform_337 : decode cX5_perform 337 = .ok (.iload_n 2, 1) := by decide +kernel
theorem dX5_perform_338 : decode cX5_perform 338 = .ok (.invokevirtual 248, 3) := by decide +kernel
theorem dX5_perform_341 : decode cX5_perform 341 = .ok (.ireturn, 1) := by decide +kernel
theorem dX5_goIf_0 : decode cX5_goIf 0 = .ok (.iload_n 2, 1) := by decide +kernel
theorem dX5_goIf_1 : decode cX5_goIf 1 = .ok (.ifCond .eq 11, 3) := by decide +kernel
theorem dX5_goIf_4 : decode cX5_goIf 4 = .ok (.aload_n 1, 1) := by decide +kernel
theorem dX5_goIf_5 : decode cX5_goIf 5 = .ok (.aload_n 0, 1) := by decide +kernel
theorem dX5_goIf_6 : decode cX5_goIf 6 = .ok (.getfield 186, 3) := by decide +kernel
theorem dX5_goIf_9 : decode cX5_goIf 9 = .ok (.putfield 189, 3) := by decide +kernel
theorem dX5_goIf_12 : decode cX5_goIf 12 = .ok (.iconst 0, 1) := by decide +kernel
theorem dX5_goIf_13 : decode cX5_goIf 13 = .ok (.ireturn, 1) := by decide +kernel
theorem dX5_stopScript_0 : decode cX5_stopScript 0 = .ok (.iconst 0, 1) := by decide +kernel
theorem dX5_stopScript_1 : decode cX5_stopScript 1 = .ok (.istore_n 3, 1) := by decide +kernel
theorem dX5_stopScript_2 : decode cX5_stopScript 2 = .ok (.iload_n 3, 1) := by decide +kernel
theorem dX5_stopScript_3 : decode cX5_stopScript 3 = .ok (.bipush 8, 2) := by decide +kernel
theorem dX5_stopScript_5 : decode cX5_stopScript 5 = .ok (.if_icmp .ge 37, 3) := by decide +kernel
theorem dX5_stopScript_8 : decode cX5_stopScript 8 = .ok (.aload_n 0, 1) := by decide +kernel
theorem dX5_stopScript_9 : decode cX5_stopScript 9 = .ok (.getfield 23, 3) := by decide +kernel
theorem dX5_stopScript_12 : decode cX5_stopScript 12 = .ok (.getfield 50, 3) := by decide +kernel
theorem dX5_stopScript_15 : decode cX5_stopScript 15 = .ok (.iload_n 3, 1) := by decide +kernel
theorem dX5_stopScript_16 : decode cX5_stopScript 16 = .ok (.aaload, 1) := by decide +kernel
theorem dX5_stopScript_17 : decode cX5_stopScript 17 = .ok (.getfield 103, 3) := by decide +kernel
theorem dX5_stopScript_20 : decode cX5_stopScript 20 = .ok (.iload_n 2, 1) := by decide +kernel
theorem dX5_stopScript_21 : decode cX5_stopScript 21 = .ok (.if_icmp .ne 15, 3) := by decide +kernel
theorem dX5_stopScript_24 : decode cX5_stopScript 24 = .ok (.aload_n 0, 1) := by decide +kernel
theorem dX5_stopScript_25 : decode cX5_stopScript 25 = .ok (.getfield 23, 3) := by decide +kernel
theorem dX5_stopScript_28 : decode cX5_stopScript 28 = .ok (.getfield 50, 3) := by decide +kernel
theorem dX5_stopScript_31 : decode cX5_stopScript 31 = .ok (.iload_n 3, 1) := by decide +kernel
theorem dX5_stopScript_32 : decode cX5_stopScript 32 = .ok (.aaload, 1) := by decide +kernel
theorem dX5_stopScript_33 : decode cX5_stopScript 33 = .ok (.invokevirtual 117, 3) := by decide +kernel
theorem dX5_stopScript_36 : decode cX5_stopScript 36 = .ok (.iinc 3 1, 3) := by decide +kernel
theorem dX5_stopScript_39 : decode cX5_stopScript 39 = .ok (.goto (-37), 3) := by decide +kernel
theorem dX5_stopScript_42 : decode cX5_stopScript 42 = .ok (.aload_n 1, 1) := by decide +kernel
theorem dX5_stopScript_43 : decode cX5_stopScript 43 = .ok (.invokevirtual 123, 3) := by decide +kernel
theorem dX5_stopScript_46 : decode cX5_stopScript 46 = .ok (.ifCond .eq 7, 3) := by decide +kernel
theorem dX5_stopScript_49 : decode cX5_stopScript 49 = .ok (.iconst 0, 1) := by decide +kernel
theorem dX5_stopScript_50 : decode cX5_stopScript 50 = .ok (.goto 4, 3) := by decide +kernel
theorem dX5_stopScript_53 : decode cX5_stopScript 53 = .ok (.iconst 1, 1) := by decide +kernel
theorem dX5_stopScript_54 : decode cX5_stopScript 54 = .ok (.ireturn, 1) := by decide +kernel
theorem dX5_chain_0 : decode cX5_chain 0 = .ok (.aload_n 0, 1) := by decide +kernel
theorem dX5_chain_1 : decode cX5_chain 1 = .ok (.getfield 15, 3) := by decide +kernel
theorem dX5_chain_4 : decode cX5_chain 4 = .ok (.getfield 63, 3) := by decide +kernel
theorem dX5_chain_7 : decode cX5_chain 7 = .ok (.iload_n 2, 1) := by decide +kernel
theorem dX5_chain_8 : decode cX5_chain 8 = .ok (.invokevirtual 69, 3) := by decide +kernel
theorem dX5_chain_11 : decode cX5_chain 11 = .ok (.ifCond .ne 9, 3) := by decide +kernel
theorem dX5_chain_14 : decode cX5_chain 14 = .ok (.aload_n 1, 1) := by decide +kernel
theorem dX5_chain_15 : decode cX5_chain 15 = .ok (.invokevirtual 117, 3) := by decide +kernel
theorem dX5_chain_18 : decode cX5_chain 18 = .ok (.iconst 1, 1) := by decide +kernel
theorem dX5_chain_19 : decode cX5_chain 19 = .ok (.ireturn, 1) := by decide +kernel
theorem dX5_chain_20 : decode cX5_chain 20 = .ok (.aload_n 1, 1) := by decide +kernel
theorem dX5_chain_21 : decode cX5_chain 21 = .ok (.iload_n 2, 1) := by decide +kernel
theorem dX5_chain_22 : decode cX5_chain 22 = .ok (.putfield 103, 3) := by decide +kernel
theorem dX5_chain_25 : decode cX5_chain 25 = .ok (.aload_n 1, 1) := by decide +kernel
theorem dX5_chain_26 : decode cX5_chain 26 = .ok (.iconst 0, 1) := by decide +kernel
theorem dX5_chain_27 : decode cX5_chain 27 = .ok (.putfield 189, 3) := by decide +kernel
theorem dX5_chain_30 : decode cX5_chain 30 = .ok (.aload_n 0, 1) := by decide +kernel
theorem dX5_chain_31 : decode cX5_chain 31 = .ok (.iload_n 2, 1) := by decide +kernel
theorem dX5_chain_32 : decode cX5_chain 32 = .ok (.invokevirtual 106, 3) := by decide +kernel
theorem dX5_chain_35 : decode cX5_chain 35 = .ok (.iconst 0, 1) := by decide +kernel
theorem dX5_chain_36 : decode cX5_chain 36 = .ok (.ireturn, 1) := by decide +kernel
theorem dX5_await_0 : decode cX5_await 0 = .ok (.aload_n 0, 1) := by decide +kernel
theorem dX5_await_1 : decode cX5_await 1 = .ok (.getfield 15, 3) := by decide +kernel
theorem dX5_await_4 : decode cX5_await 4 = .ok (.getfield 133, 3) := by decide +kernel
theorem dX5_await_7 : decode cX5_await 7 = .ok (.iload_n 2, 1) := by decide +kernel
theorem dX5_await_8 : decode cX5_await 8 = .ok (.invokevirtual 69, 3) := by decide +kernel
theorem dX5_await_11 : decode cX5_await 11 = .ok (.ifCond .ne 5, 3) := by decide +kernel
theorem dX5_await_14 : decode cX5_await 14 = .ok (.iconst 2, 1) := by decide +kernel
theorem dX5_await_15 : decode cX5_await 15 = .ok (.ireturn, 1) := by decide +kernel
theorem dX5_await_16 : decode cX5_await 16 = .ok (.aload_n 1, 1) := by decide +kernel
theorem dX5_await_17 : decode cX5_await 17 = .ok (.iload_n 2, 1) := by decide +kernel
theorem dX5_await_18 : decode cX5_await 18 = .ok (.putfield 136, 3) := by decide +kernel
theorem dX5_await_21 : decode cX5_await 21 = .ok (.iconst 1, 1) := by decide +kernel
theorem dX5_await_22 : decode cX5_await 22 = .ok (.ireturn, 1) := by decide +kernel
theorem dX5_freezeOthers_0 : decode cX5_freezeOthers 0 = .ok (.iconst 0, 1) := by decide +kernel
theorem dX5_freezeOthers_1 : decode cX5_freezeOthers 1 = .ok (.istore_n 3, 1) := by decide +kernel
theorem dX5_freezeOthers_2 : decode cX5_freezeOthers 2 = .ok (.iload_n 3, 1) := by decide +kernel
theorem dX5_freezeOthers_3 : decode cX5_freezeOthers 3 = .ok (.bipush 8, 2) := by decide +kernel
theorem dX5_freezeOthers_5 : decode cX5_freezeOthers 5 = .ok (.if_icmp .ge 48, 3) := by decide +kernel
theorem dX5_freezeOthers_8 : decode cX5_freezeOthers 8 = .ok (.aload_n 0, 1) := by decide +kernel
theorem dX5_freezeOthers_9 : decode cX5_freezeOthers 9 = .ok (.getfield 23, 3) := by decide +kernel
theorem dX5_freezeOthers_12 : decode cX5_freezeOthers 12 = .ok (.getfield 50, 3) := by decide +kernel
theorem dX5_freezeOthers_15 : decode cX5_freezeOthers 15 = .ok (.iload_n 3, 1) := by decide +kernel
theorem dX5_freezeOthers_16 : decode cX5_freezeOthers 16 = .ok (.aaload, 1) := by decide +kernel
theorem dX5_freezeOthers_17 : decode cX5_freezeOthers 17 = .ok (.astore 4, 2) := by decide +kernel
theorem dX5_freezeOthers_19 : decode cX5_freezeOthers 19 = .ok (.aload 4, 2) := by decide +kernel
theorem dX5_freezeOthers_21 : decode cX5_freezeOthers 21 = .ok (.iload_n 2, 1) := by decide +kernel
theorem dX5_freezeOthers_22 : decode cX5_freezeOthers 22 = .ok (.ifCond .eq 21, 3) := by decide +kernel
theorem dX5_freezeOthers_25 : decode cX5_freezeOthers 25 = .ok (.aload 4, 2) := by decide +kernel
theorem dX5_freezeOthers_27 : decode cX5_freezeOthers 27 = .ok (.invokevirtual 123, 3) := by decide +kernel
theorem dX5_freezeOthers_30 : decode cX5_freezeOthers 30 = .ok (.ifCond .eq 13, 3) := by decide +kernel
theorem dX5_freezeOthers_33 : decode cX5_freezeOthers 33 = .ok (.aload 4, 2) := by decide +kernel
theorem dX5_freezeOthers_35 : decode cX5_freezeOthers 35 = .ok (.aload_n 1, 1) := by decide +kernel
theorem dX5_freezeOthers_36 : decode cX5_freezeOthers 36 = .ok (.if_acmp .eq 7, 3) := by decide +kernel
theorem dX5_freezeOthers_39 : decode cX5_freezeOthers 39 = .ok (.iconst 1, 1) := by decide +kernel
theorem dX5_freezeOthers_40 : decode cX5_freezeOthers 40 = .ok (.goto 4, 3) := by decide +kernel
theorem dX5_freezeOthers_43 : decode cX5_freezeOthers 43 = .ok (.iconst 0, 1) := by decide +kernel
theorem dX5_freezeOthers_44 : decode cX5_freezeOthers 44 = .ok (.putfield 126, 3) := by decide +kernel
theorem dX5_freezeOthers_47 : decode cX5_freezeOthers 47 = .ok (.iinc 3 1, 3) := by decide +kernel
theorem dX5_freezeOthers_50 : decode cX5_freezeOthers 50 = .ok (.goto (-48), 3) := by decide +kernel
theorem dX5_freezeOthers_53 : decode cX5_freezeOthers 53 = .ok (.iconst 0, 1) := by decide +kernel
theorem dX5_freezeOthers_54 : decode cX5_freezeOthers 54 = .ok (.ireturn, 1) := by decide +kernel
theorem dX5_changeStage_0 : decode cX5_changeStage 0 = .ok (.aload_n 0, 1) := by decide +kernel
theorem dX5_changeStage_1 : decode cX5_changeStage 1 = .ok (.getfield 9, 3) := by decide +kernel
theorem dX5_changeStage_4 : decode cX5_changeStage 4 = .ok (.iconst 0, 1) := by decide +kernel
theorem dX5_changeStage_5 : decode cX5_changeStage 5 = .ok (.iaload, 1) := by decide +kernel
theorem dX5_changeStage_6 : decode cX5_changeStage 6 = .ok (.istore_n 2, 1) := by decide +kernel
theorem dX5_changeStage_7 : decode cX5_changeStage 7 = .ok (.iload_n 1, 1) := by decide +kernel
theorem dX5_changeStage_8 : decode cX5_changeStage 8 = .ok (.tableswitch 159 13 19 #[44, 68, 159, 97, 109, 121, 133], 44) := by decide +kernel
theorem dX5_changeStage_52 : decode cX5_changeStage 52 = .ok (.aload_n 0, 1) := by decide +kernel
theorem dX5_changeStage_53 : decode cX5_changeStage 53 = .ok (.iload_n 2, 1) := by decide +kernel
theorem dX5_changeStage_54 : decode cX5_changeStage 54 = .ok (.aload_n 0, 1) := by decide +kernel
theorem dX5_changeStage_55 : decode cX5_changeStage 55 = .ok (.getfield 9, 3) := by decide +kernel
theorem dX5_changeStage_58 : decode cX5_changeStage 58 = .ok (.iconst 1, 1) := by decide +kernel
theorem dX5_changeStage_59 : decode cX5_changeStage 59 = .ok (.iaload, 1) := by decide +kernel
theorem dX5_changeStage_60 : decode cX5_changeStage 60 = .ok (.aload_n 0, 1) := by decide +kernel
theorem dX5_changeStage_61 : decode cX5_changeStage 61 = .ok (.getfield 9, 3) := by decide +kernel
theorem dX5_changeStage_64 : decode cX5_changeStage 64 = .ok (.iconst 2, 1) := by decide +kernel
theorem dX5_changeStage_65 : decode cX5_changeStage 65 = .ok (.iaload, 1) := by decide +kernel
theorem dX5_changeStage_66 : decode cX5_changeStage 66 = .ok (.aload_n 0, 1) := by decide +kernel
theorem dX5_changeStage_67 : decode cX5_changeStage 67 = .ok (.getfield 9, 3) := by decide +kernel
theorem dX5_changeStage_70 : decode cX5_changeStage 70 = .ok (.iconst 3, 1) := by decide +kernel
theorem dX5_changeStage_71 : decode cX5_changeStage 71 = .ok (.iaload, 1) := by decide +kernel
theorem dX5_changeStage_72 : decode cX5_changeStage 72 = .ok (.invokevirtual 251, 3) := by decide +kernel
theorem dX5_changeStage_75 : decode cX5_changeStage 75 = .ok (.ireturn, 1) := by decide +kernel
theorem dX5_changeStage_76 : decode cX5_changeStage 76 = .ok (.aload_n 0, 1) := by decide +kernel
theorem dX5_changeStage_77 : decode cX5_changeStage 77 = .ok (.getfield 27, 3) := by decide +kernel
theorem dX5_changeStage_80 : decode cX5_changeStage 80 = .ok (.iload_n 2, 1) := by decide +kernel
theorem dX5_changeStage_81 : decode cX5_changeStage 81 = .ok (.aload_n 0, 1) := by decide +kernel
theorem dX5_changeStage_82 : decode cX5_changeStage 82 = .ok (.getfield 9, 3) := by decide +kernel
theorem dX5_changeStage_85 : decode cX5_changeStage 85 = .ok (.iconst 1, 1) := by decide +kernel
theorem dX5_changeStage_86 : decode cX5_changeStage 86 = .ok (.iaload, 1) := by decide +kernel
theorem dX5_changeStage_87 : decode cX5_changeStage 87 = .ok (.aload_n 0, 1) := by decide +kernel
theorem dX5_changeStage_88 : decode cX5_changeStage 88 = .ok (.getfield 9, 3) := by decide +kernel
theorem dX5_changeStage_91 : decode cX5_changeStage 91 = .ok (.iconst 2, 1) := by decide +kernel
theorem dX5_changeStage_92 : decode cX5_changeStage 92 = .ok (.iaload, 1) := by decide +kernel
theorem dX5_changeStage_93 : decode cX5_changeStage 93 = .ok (.invokevirtual 255, 3) := by decide +kernel
theorem dX5_changeStage_96 : decode cX5_changeStage 96 = .ok (.ifCond .eq 7, 3) := by decide +kernel
theorem dX5_changeStage_99 : decode cX5_changeStage 99 = .ok (.iconst 0, 1) := by decide +kernel
theorem dX5_changeStage_100 : decode cX5_changeStage 100 = .ok (.goto 4, 3) := by decide +kernel
theorem dX5_changeStage_103 : decode cX5_changeStage 103 = .ok (.iconst 2, 1) := by decide +kernel
theorem dX5_changeStage_104 : decode cX5_changeStage 104 = .ok (.ireturn, 1) := by decide +kernel
theorem dX5_changeStage_105 : decode cX5_changeStage 105 = .ok (.aload_n 0, 1) := by decide +kernel
theorem dX5_changeStage_106 : decode cX5_changeStage 106 = .ok (.iload_n 2, 1) := by decide +kernel
theorem dX5_changeStage_107 : decode cX5_changeStage 107 = .ok (.aload_n 0, 1) := by decide +kernel
theorem dX5_changeStage_108 : decode cX5_changeStage 108 = .ok (.getfield 9, 3) := by decide +kernel
theorem dX5_changeStage_111 : decode cX5_changeStage 111 = .ok (.iconst 1, 1) := by decide +kernel
theorem dX5_changeStage_112 : decode cX5_changeStage 112 = .ok (.iaload, 1) := by decide +kernel
theorem dX5_changeStage_113 : decode cX5_changeStage 113 = .ok (.invokevirtual 258, 3) := by decide +kernel
theorem dX5_changeStage_116 : decode cX5_changeStage 116 = .ok (.ireturn, 1) := by decide +kernel
theorem dX5_changeStage_117 : decode cX5_changeStage 117 = .ok (.aload_n 0, 1) := by decide +kernel
theorem dX5_changeStage_118 : decode cX5_changeStage 118 = .ok (.iload_n 2, 1) := by decide +kernel
theorem dX5_changeStage_119 : decode cX5_changeStage 119 = .ok (.aload_n 0, 1) := by decide +kernel
theorem dX5_changeStage_120 : decode cX5_changeStage 120 = .ok (.getfield 9, 3) := by decide +kernel
theorem dX5_changeStage_123 : decode cX5_changeStage 123 = .ok (.iconst 1, 1) := by decide +kernel
theorem dX5_changeStage_124 : decode cX5_changeStage 124 = .ok (.iaload, 1) := by decide +kernel
theorem dX5_changeStage_125 : decode cX5_changeStage 125 = .ok (.invokevirtual 261, 3) := by decide +kernel
theorem dX5_changeStage_128 : decode cX5_changeStage 128 = .ok (.ireturn, 1) := by decide +kernel
theorem dX5_changeStage_129 : decode cX5_changeStage 129 = .ok (.aload_n 0, 1) := by decide +kernel
theorem dX5_changeStage_130 : decode cX5_changeStage 130 = .ok (.iload_n 2, 1) := by decide +kernel
theorem dX5_changeStage_131 : decode cX5_changeStage 131 = .ok (.aload_n 0, 1) := by decide +kernel
theorem dX5_changeStage_132 : decode cX5_changeStage 132 = .ok (.getfield 9, 3) := by decide +kernel
theorem dX5_changeStage_135 : decode cX5_changeStage 135 = .ok (.iconst 1, 1) := by decide +kernel
theorem dX5_changeStage_136 : decode cX5_changeStage 136 = .ok (.iaload, 1) := by decide +kernel
theorem dX5_changeStage_137 : decode cX5_changeStage 137 = .ok (.invokevirtual 264, 3) := by decide +kernel
theorem dX5_changeStage_140 : decode cX5_changeStage 140 = .ok (.ireturn, 1) := by decide +kernel
theorem dX5_changeStage_141 : decode cX5_changeStage 141 = .ok (.aload_n 0, 1) := by decide +kernel
theorem dX5_changeStage_142 : decode cX5_changeStage 142 = .ok (.iload_n 2, 1) := by decide +kernel
theorem dX5_changeStage_143 : decode cX5_changeStage 143 = .ok (.aload_n 0, 1) := by decide +kernel
theorem dX5_changeStage_144 : decode cX5_changeStage 144 = .ok (.getfield 9, 3) := by decide +kernel
theorem dX5_changeStage_147 : decode cX5_changeStage 147 = .ok (.iconst 1, 1) := by decide +kernel
theorem dX5_changeStage_148 : decode cX5_changeStage 148 = .ok (.iaload, 1) := by decide +kernel
theorem dX5_changeStage_149 : decode cX5_changeStage 149 = .ok (.aload_n 0, 1) := by decide +kernel
theorem dX5_changeStage_150 : decode cX5_changeStage 150 = .ok (.getfield 9, 3) := by decide +kernel
theorem dX5_changeStage_153 : decode cX5_changeStage 153 = .ok (.iconst 2, 1) := by decide +kernel
theorem dX5_changeStage_154 : decode cX5_changeStage 154 = .ok (.iaload, 1) := by decide +kernel
theorem dX5_changeStage_155 : decode cX5_changeStage 155 = .ok (.ifCond .eq 7, 3) := by decide +kernel
theorem dX5_changeStage_158 : decode cX5_changeStage 158 = .ok (.iconst 1, 1) := by decide +kernel
theorem dX5_changeStage_159 : decode cX5_changeStage 159 = .ok (.goto 4, 3) := by decide +kernel
theorem dX5_changeStage_162 : decode cX5_changeStage 162 = .ok (.iconst 0, 1) := by decide +kernel
theorem dX5_changeStage_163 : decode cX5_changeStage 163 = .ok (.invokevirtual 267, 3) := by decide +kernel
theorem dX5_changeStage_166 : decode cX5_changeStage 166 = .ok (.ireturn, 1) := by decide +kernel
theorem dX5_changeStage_167 : decode cX5_changeStage 167 = .ok (.iconst 2, 1) := by decide +kernel
theorem dX5_changeStage_168 : decode cX5_changeStage 168 = .ok (.ireturn, 1) := by decide +kernel
theorem dX5_putActor_0 : decode cX5_putActor 0 = .ok (.aload_n 0, 1) := by decide +kernel
theorem dX5_putActor_1 : decode cX5_putActor 1 = .ok (.getfield 15, 3) := by decide +kernel
theorem dX5_putActor_4 : decode cX5_putActor 4 = .ok (.getfield 133, 3) := by decide +kernel
theorem dX5_putActor_7 : decode cX5_putActor 7 = .ok (.iload_n 1, 1) := by decide +kernel
theorem dX5_putActor_8 : decode cX5_putActor 8 = .ok (.invokevirtual 69, 3) := by decide +kernel
theorem dX5_putActor_11 : decode cX5_putActor 11 = .ok (.ifCond .eq 28, 3) := by decide +kernel
theorem dX5_putActor_14 : decode cX5_putActor 14 = .ok (.iload_n 2, 1) := by decide +kernel
theorem dX5_putActor_15 : decode cX5_putActor 15 = .ok (.ifCond .lt 24, 3) := by decide +kernel
theorem dX5_putActor_18 : decode cX5_putActor 18 = .ok (.iload_n 2, 1) := by decide +kernel
theorem dX5_putActor_19 : decode cX5_putActor 19 = .ok (.bipush 20, 2) := by decide +kernel
theorem dX5_putActor_21 : decode cX5_putActor 21 = .ok (.if_icmp .gt 18, 3) := by decide +kernel
theorem dX5_putActor_24 : decode cX5_putActor 24 = .ok (.iload_n 3, 1) := by decide +kernel
theorem dX5_putActor_25 : decode cX5_putActor 25 = .ok (.invokestatic 271, 3) := by decide +kernel
theorem dX5_putActor_28 : decode cX5_putActor 28 = .ok (.ifCond .eq 11, 3) := by decide +kernel
theorem dX5_putActor_31 : decode cX5_putActor 31 = .ok (.iload 4, 2) := by decide +kernel
theorem dX5_putActor_33 : decode cX5_putActor 33 = .ok (.invokestatic 271, 3) := by decide +kernel
theorem dX5_putActor_36 : decode cX5_putActor 36 = .ok (.ifCond .ne 5, 3) := by decide +kernel
theorem dX5_putActor_39 : decode cX5_putActor 39 = .ok (.iconst 2, 1) := by decide +kernel
theorem dX5_putActor_40 : decode cX5_putActor 40 = .ok (.ireturn, 1) := by decide +kernel
theorem dX5_putActor_41 : decode cX5_putActor 41 = .ok (.aload_n 0, 1) := by decide +kernel
theorem dX5_putActor_42 : decode cX5_putActor 42 = .ok (.getfield 23, 3) := by decide +kernel
theorem dX5_putActor_45 : decode cX5_putActor 45 = .ok (.getfield 139, 3) := by decide +kernel
theorem dX5_putActor_48 : decode cX5_putActor 48 = .ok (.iload_n 1, 1) := by decide +kernel
theorem dX5_putActor_49 : decode cX5_putActor 49 = .ok (.aaload, 1) := by decide +kernel
theorem dX5_putActor_50 : decode cX5_putActor 50 = .ok (.iload_n 2, 1) := by decide +kernel
theorem dX5_putActor_51 : decode cX5_putActor 51 = .ok (.iload_n 3, 1) := by decide +kernel
theorem dX5_putActor_52 : decode cX5_putActor 52 = .ok (.iload 4, 2) := by decide +kernel
theorem dX5_putActor_54 : decode cX5_putActor 54 = .ok (.invokevirtual 274, 3) := by decide +kernel
theorem dX5_putActor_57 : decode cX5_putActor 57 = .ok (.iconst 0, 1) := by decide +kernel
theorem dX5_putActor_58 : decode cX5_putActor 58 = .ok (.ireturn, 1) := by decide +kernel
theorem dX5_setSpeed_0 : decode cX5_setSpeed 0 = .ok (.aload_n 0, 1) := by decide +kernel
theorem dX5_setSpeed_1 : decode cX5_setSpeed 1 = .ok (.getfield 15, 3) := by decide +kernel
theorem dX5_setSpeed_4 : decode cX5_setSpeed 4 = .ok (.getfield 133, 3) := by decide +kernel
theorem dX5_setSpeed_7 : decode cX5_setSpeed 7 = .ok (.iload_n 1, 1) := by decide +kernel
theorem dX5_setSpeed_8 : decode cX5_setSpeed 8 = .ok (.invokevirtual 69, 3) := by decide +kernel
theorem dX5_setSpeed_11 : decode cX5_setSpeed 11 = .ok (.ifCond .eq 13, 3) := by decide +kernel
theorem dX5_setSpeed_14 : decode cX5_setSpeed 14 = .ok (.iload_n 2, 1) := by decide +kernel
theorem dX5_setSpeed_15 : decode cX5_setSpeed 15 = .ok (.ifCond .lt 9, 3) := by decide +kernel
theorem dX5_setSpeed_18 : decode cX5_setSpeed 18 = .ok (.iload_n 2, 1) := by decide +kernel
theorem dX5_setSpeed_19 : decode cX5_setSpeed 19 = .ok (.bipush 8, 2) := by decide +kernel
theorem dX5_setSpeed_21 : decode cX5_setSpeed 21 = .ok (.if_icmp .le 5, 3) := by decide +kernel
theorem dX5_setSpeed_24 : decode cX5_setSpeed 24 = .ok (.iconst 2, 1) := by decide +kernel
theorem dX5_setSpeed_25 : decode cX5_setSpeed 25 = .ok (.ireturn, 1) := by decide +kernel
theorem dX5_setSpeed_26 : decode cX5_setSpeed 26 = .ok (.aload_n 0, 1) := by decide +kernel
theorem dX5_setSpeed_27 : decode cX5_setSpeed 27 = .ok (.getfield 23, 3) := by decide +kernel
theorem dX5_setSpeed_30 : decode cX5_setSpeed 30 = .ok (.getfield 139, 3) := by decide +kernel
theorem dX5_setSpeed_33 : decode cX5_setSpeed 33 = .ok (.iload_n 1, 1) := by decide +kernel
theorem dX5_setSpeed_34 : decode cX5_setSpeed 34 = .ok (.aaload, 1) := by decide +kernel
theorem dX5_setSpeed_35 : decode cX5_setSpeed 35 = .ok (.iload_n 2, 1) := by decide +kernel
theorem dX5_setSpeed_36 : decode cX5_setSpeed 36 = .ok (.putfield 278, 3) := by decide +kernel
theorem dX5_setSpeed_39 : decode cX5_setSpeed 39 = .ok (.iconst 0, 1) := by decide +kernel
theorem dX5_setSpeed_40 : decode cX5_setSpeed 40 = .ok (.ireturn, 1) := by decide +kernel
theorem dX5_setState_0 : decode cX5_setState 0 = .ok (.aload_n 0, 1) := by decide +kernel
theorem dX5_setState_1 : decode cX5_setState 1 = .ok (.getfield 15, 3) := by decide +kernel
theorem dX5_setState_4 : decode cX5_setState 4 = .ok (.getfield 281, 3) := by decide +kernel
theorem dX5_setState_7 : decode cX5_setState 7 = .ok (.iload_n 1, 1) := by decide +kernel
theorem dX5_setState_8 : decode cX5_setState 8 = .ok (.invokevirtual 69, 3) := by decide +kernel
theorem dX5_setState_11 : decode cX5_setState 11 = .ok (.ifCond .eq 10, 3) := by decide +kernel
theorem dX5_setState_14 : decode cX5_setState 14 = .ok (.iload_n 2, 1) := by decide +kernel
theorem dX5_setState_15 : decode cX5_setState 15 = .ok (.invokestatic 271, 3) := by decide +kernel
theorem dX5_setState_18 : decode cX5_setState 18 = .ok (.ifCond .ne 5, 3) := by decide +kernel
theorem dX5_setState_21 : decode cX5_setState 21 = .ok (.iconst 2, 1) := by decide +kernel
theorem dX5_setState_22 : decode cX5_setState 22 = .ok (.ireturn, 1) := by decide +kernel
theorem dX5_setState_23 : decode cX5_setState 23 = .ok (.aload_n 0, 1) := by decide +kernel
theorem dX5_setState_24 : decode cX5_setState 24 = .ok (.getfield 23, 3) := by decide +kernel
theorem dX5_setState_27 : decode cX5_setState 27 = .ok (.getfield 284, 3) := by decide +kernel
theorem dX5_setState_30 : decode cX5_setState 30 = .ok (.iload_n 1, 1) := by decide +kernel
theorem dX5_setState_31 : decode cX5_setState 31 = .ok (.iload_n 2, 1) := by decide +kernel
theorem dX5_setState_32 : decode cX5_setState 32 = .ok (.iastore, 1) := by decide +kernel
theorem dX5_setState_33 : decode cX5_setState 33 = .ok (.iconst 0, 1) := by decide +kernel
theorem dX5_setState_34 : decode cX5_setState 34 = .ok (.ireturn, 1) := by decide +kernel
theorem dX5_setOwner_0 : decode cX5_setOwner 0 = .ok (.aload_n 0, 1) := by decide +kernel
theorem dX5_setOwner_1 : decode cX5_setOwner 1 = .ok (.getfield 15, 3) := by decide +kernel
theorem dX5_setOwner_4 : decode cX5_setOwner 4 = .ok (.getfield 281, 3) := by decide +kernel
theorem dX5_setOwner_7 : decode cX5_setOwner 7 = .ok (.iload_n 1, 1) := by decide +kernel
theorem dX5_setOwner_8 : decode cX5_setOwner 8 = .ok (.invokevirtual 69, 3) := by decide +kernel
theorem dX5_setOwner_11 : decode cX5_setOwner 11 = .ok (.ifCond .eq 21, 3) := by decide +kernel
theorem dX5_setOwner_14 : decode cX5_setOwner 14 = .ok (.iload_n 2, 1) := by decide +kernel
theorem dX5_setOwner_15 : decode cX5_setOwner 15 = .ok (.ifCond .eq 19, 3) := by decide +kernel
theorem dX5_setOwner_18 : decode cX5_setOwner 18 = .ok (.aload_n 0, 1) := by decide +kernel
theorem dX5_setOwner_19 : decode cX5_setOwner 19 = .ok (.getfield 15, 3) := by decide +kernel
theorem dX5_setOwner_22 : decode cX5_setOwner 22 = .ok (.getfield 133, 3) := by decide +kernel
theorem dX5_setOwner_25 : decode cX5_setOwner 25 = .ok (.iload_n 2, 1) := by decide +kernel
theorem dX5_setOwner_26 : decode cX5_setOwner 26 = .ok (.invokevirtual 69, 3) := by decide +kernel
theorem dX5_setOwner_29 : decode cX5_setOwner 29 = .ok (.ifCond .ne 5, 3) := by decide +kernel
theorem dX5_setOwner_32 : decode cX5_setOwner 32 = .ok (.iconst 2, 1) := by decide +kernel
theorem dX5_setOwner_33 : decode cX5_setOwner 33 = .ok (.ireturn, 1) := by decide +kernel
theorem dX5_setOwner_34 : decode cX5_setOwner 34 = .ok (.aload_n 0, 1) := by decide +kernel
theorem dX5_setOwner_35 : decode cX5_setOwner 35 = .ok (.getfield 23, 3) := by decide +kernel
theorem dX5_setOwner_38 : decode cX5_setOwner 38 = .ok (.getfield 287, 3) := by decide +kernel
theorem dX5_setOwner_41 : decode cX5_setOwner 41 = .ok (.iload_n 1, 1) := by decide +kernel
theorem dX5_setOwner_42 : decode cX5_setOwner 42 = .ok (.iload_n 2, 1) := by decide +kernel
theorem dX5_setOwner_43 : decode cX5_setOwner 43 = .ok (.iastore, 1) := by decide +kernel
theorem dX5_setOwner_44 : decode cX5_setOwner 44 = .ok (.iconst 0, 1) := by decide +kernel
theorem dX5_setOwner_45 : decode cX5_setOwner 45 = .ok (.ireturn, 1) := by decide +kernel
theorem dX5_shutBox_0 : decode cX5_shutBox 0 = .ok (.aload_n 0, 1) := by decide +kernel
theorem dX5_shutBox_1 : decode cX5_shutBox 1 = .ok (.getfield 19, 3) := by decide +kernel
theorem dX5_shutBox_4 : decode cX5_shutBox 4 = .ok (.iload_n 1, 1) := by decide +kernel
theorem dX5_shutBox_5 : decode cX5_shutBox 5 = .ok (.iload_n 2, 1) := by decide +kernel
theorem dX5_shutBox_6 : decode cX5_shutBox 6 = .ok (.invokevirtual 290, 3) := by decide +kernel
theorem dX5_shutBox_9 : decode cX5_shutBox 9 = .ok (.ifCond .ne 5, 3) := by decide +kernel
theorem dX5_shutBox_12 : decode cX5_shutBox 12 = .ok (.iconst 2, 1) := by decide +kernel
theorem dX5_shutBox_13 : decode cX5_shutBox 13 = .ok (.ireturn, 1) := by decide +kernel
theorem dX5_shutBox_14 : decode cX5_shutBox 14 = .ok (.aload_n 0, 1) := by decide +kernel
theorem dX5_shutBox_15 : decode cX5_shutBox 15 = .ok (.getfield 23, 3) := by decide +kernel
theorem dX5_shutBox_18 : decode cX5_shutBox 18 = .ok (.iload_n 1, 1) := by decide +kernel
theorem dX5_shutBox_19 : decode cX5_shutBox 19 = .ok (.iload_n 2, 1) := by decide +kernel
theorem dX5_shutBox_20 : decode cX5_shutBox 20 = .ok (.iload_n 3, 1) := by decide +kernel
theorem dX5_shutBox_21 : decode cX5_shutBox 21 = .ok (.invokevirtual 296, 3) := by decide +kernel
theorem dX5_shutBox_24 : decode cX5_shutBox 24 = .ok (.iconst 0, 1) := by decide +kernel
theorem dX5_shutBox_25 : decode cX5_shutBox 25 = .ok (.ireturn, 1) := by decide +kernel
theorem dX5_assign_0 : decode cX5_assign 0 = .ok (.aload_n 0, 1) := by decide +kernel
theorem dX5_assign_1 : decode cX5_assign 1 = .ok (.getfield 9, 3) := by decide +kernel
theorem dX5_assign_4 : decode cX5_assign 4 = .ok (.iconst 0, 1) := by decide +kernel
theorem dX5_assign_5 : decode cX5_assign 5 = .ok (.iaload, 1) := by decide +kernel
theorem dX5_assign_6 : decode cX5_assign 6 = .ok (.istore_n 3, 1) := by decide +kernel
theorem dX5_assign_7 : decode cX5_assign 7 = .ok (.iload_n 2, 1) := by decide +kernel
theorem dX5_assign_8 : decode cX5_assign 8 = .ok (.tableswitch 313 3 32 #[136, 143, 160, 177, 194, 313, 313, 313, 313, 313, 313, 313, 313, 313, 313, 313, 313, 313, 313, 313, 313, 313, 313, 313, 313, 219, 252, 285, 313, 299], 136) := by decide +kernel
theorem dX5_assign_144 : decode cX5_assign 144 = .ok (.aload_n 0, 1) := by decide +kernel
theorem dX5_assign_145 : decode cX5_assign 145 = .ok (.aload_n 1, 1) := by decide +kernel
theorem dX5_assign_146 : decode cX5_assign 146 = .ok (.iload_n 3, 1) := by decide +kernel
theorem dX5_assign_147 : decode cX5_assign 147 = .ok (.invokevirtual 299, 3) := by decide +kernel
theorem dX5_assign_150 : decode cX5_assign 150 = .ok (.ireturn, 1) := by decide +kernel
theorem dX5_assign_151 : decode cX5_assign 151 = .ok (.aload_n 0, 1) := by decide +kernel
theorem dX5_assign_152 : decode cX5_assign 152 = .ok (.aload_n 1, 1) := by decide +kernel
theorem dX5_assign_153 : decode cX5_assign 153 = .ok (.aload_n 0, 1) := by decide +kernel
theorem dX5_assign_154 : decode cX5_assign 154 = .ok (.aload_n 1, 1) := by decide +kernel
theorem dX5_assign_155 : decode cX5_assign 155 = .ok (.aload_n 0, 1) := by decide +kernel
theorem dX5_assign_156 : decode cX5_assign 156 = .ok (.getfield 171, 3) := by decide +kernel
theorem dX5_assign_159 : decode cX5_assign 159 = .ok (.invokevirtual 205, 3) := by decide +kernel
theorem dX5_assign_162 : decode cX5_assign 162 = .ok (.iload_n 3, 1) := by decide +kernel
theorem dX5_assign_163 : decode cX5_assign 163 = .ok (.iadd, 1) := by decide +kernel
theorem dX5_assign_164 : decode cX5_assign 164 = .ok (.invokevirtual 299, 3) := by decide +kernel
theorem dX5_assign_167 : decode cX5_assign 167 = .ok (.ireturn, 1) := by decide +kernel
theorem dX5_assign_168 : decode cX5_assign 168 = .ok (.aload_n 0, 1) := by decide +kernel
theorem dX5_assign_169 : decode cX5_assign 169 = .ok (.aload_n 1, 1) := by decide +kernel
theorem dX5_assign_170 : decode cX5_assign 170 = .ok (.aload_n 0, 1) := by decide +kernel
theorem dX5_assign_171 : decode cX5_assign 171 = .ok (.aload_n 1, 1) := by decide +kernel
theorem dX5_assign_172 : decode cX5_assign 172 = .ok (.aload_n 0, 1) := by decide +kernel
theorem dX5_assign_173 : decode cX5_assign 173 = .ok (.getfield 171, 3) := by decide +kernel
theorem dX5_assign_176 : decode cX5_assign 176 = .ok (.invokevirtual 205, 3) := by decide +kernel
theorem dX5_assign_179 : decode cX5_assign 179 = .ok (.iload_n 3, 1) := by decide +kernel
theorem dX5_assign_180 : decode cX5_assign 180 = .ok (.isub, 1) := by decide +kernel
theorem dX5_assign_181 : decode cX5_assign 181 = .ok (.invokevirtual 299, 3) := by decide +kernel
theorem dX5_assign_184 : decode cX5_assign 184 = .ok (.ireturn, 1) := by decide +kernel
theorem dX5_assign_185 : decode cX5_assign 185 = .ok (.aload_n 0, 1) := by decide +kernel
theorem dX5_assign_186 : decode cX5_assign 186 = .ok (.aload_n 1, 1) := by decide +kernel
theorem dX5_assign_187 : decode cX5_assign 187 = .ok (.aload_n 0, 1) := by decide +kernel
theorem dX5_assign_188 : decode cX5_assign 188 = .ok (.aload_n 1, 1) := by decide +kernel
theorem dX5_assign_189 : decode cX5_assign 189 = .ok (.aload_n 0, 1) := by decide +kernel
theorem dX5_assign_190 : decode cX5_assign 190 = .ok (.getfield 171, 3) := by decide +kernel
theorem dX5_assign_193 : decode cX5_assign 193 = .ok (.invokevirtual 205, 3) := by decide +kernel
theorem dX5_assign_196 : decode cX5_assign 196 = .ok (.iload_n 3, 1) := by decide +kernel
theorem dX5_assign_197 : decode cX5_assign 197 = .ok (.imul, 1) := by decide +kernel
theorem dX5_assign_198 : decode cX5_assign 198 = .ok (.invokevirtual 299, 3) := by decide +kernel
theorem dX5_assign_201 : decode cX5_assign 201 = .ok (.ireturn, 1) := by decide +kernel
theorem dX5_assign_202 : decode cX5_assign 202 = .ok (.iload_n 3, 1) := by decide +kernel
theorem dX5_assign_203 : decode cX5_assign 203 = .ok (.ifCond .ne 7, 3) := by decide +kernel
theorem dX5_assign_206 : decode cX5_assign 206 = .ok (.iconst 2, 1) := by decide +kernel
theorem dX5_assign_207 : decode cX5_assign 207 = .ok (.goto 19, 3) := by decide +kernel
theorem dX5_assign_210 : decode cX5_assign 210 = .ok (.aload_n 0, 1) := by decide +kernel
theorem dX5_assign_211 : decode cX5_assign 211 = .ok (.aload_n 1, 1) := by decide +kernel
theorem dX5_assign_212 : decode cX5_assign 212 = .ok (.aload_n 0, 1) := by decide +kernel
theorem dX5_assign_213 : decode cX5_assign 213 = .ok (.aload_n 1, 1) := by decide +kernel
theorem dX5_assign_214 : decode cX5_assign 214 = .ok (.aload_n 0, 1) := by decide +kernel
theorem dX5_assign_215 : decode cX5_assign 215 = .ok (.getfield 171, 3) := by decide +kernel
theorem dX5_assign_218 : decode cX5_assign 218 = .ok (.invokevirtual 205, 3) := by decide +kernel
theorem dX5_assign_221 : decode cX5_assign 221 = .ok (.iload_n 3, 1) := by decide +kernel
theorem dX5_assign_222 : decode cX5_assign 222 = .ok (.idiv, 1) := by decide +kernel
theorem dX5_assign_223 : decode cX5_assign 223 = .ok (.invokevirtual 299, 3) := by decide +kernel
theorem dX5_assign_226 : decode cX5_assign 226 = .ok (.ireturn, 1) := by decide +kernel
theorem dX5_assign_227 : decode cX5_assign 227 = .ok (.aload_n 0, 1) := by decide +kernel
theorem dX5_assign_228 : decode cX5_assign 228 = .ok (.getfield 15, 3) := by decide +kernel
theorem dX5_assign_231 : decode cX5_assign 231 = .ok (.getfield 281, 3) := by decide +kernel
theorem dX5_assign_234 : decode cX5_assign 234 = .ok (.iload_n 3, 1) := by decide +kernel
theorem dX5_assign_235 : decode cX5_assign 235 = .ok (.invokevirtual 69, 3) := by decide +kernel
theorem dX5_assign_238 : decode cX5_assign 238 = .ok (.ifCond .eq 20, 3) := by decide +kernel
theorem dX5_assign_241 : decode cX5_assign 241 = .ok (.aload_n 0, 1) := by decide +kernel
theorem dX5_assign_242 : decode cX5_assign 242 = .ok (.aload_n 1, 1) := by decide +kernel
theorem dX5_assign_243 : decode cX5_assign 243 = .ok (.aload_n 0, 1) := by decide +kernel
theorem dX5_assign_244 : decode cX5_assign 244 = .ok (.getfield 23, 3) := by decide +kernel
theorem dX5_assign_247 : decode cX5_assign 247 = .ok (.getfield 284, 3) := by decide +kernel
theorem dX5_assign_250 : decode cX5_assign 250 = .ok (.iload_n 3, 1) := by decide +kernel
theorem dX5_assign_251 : decode cX5_assign 251 = .ok (.iaload, 1) := by decide +kernel
theorem dX5_assign_252 : decode cX5_assign 252 = .ok (.invokevirtual 299, 3) := by decide +kernel
theorem dX5_assign_255 : decode cX5_assign 255 = .ok (.goto 4, 3) := by decide +kernel
theorem dX5_assign_258 : decode cX5_assign 258 = .ok (.iconst 2, 1) := by decide +kernel
theorem dX5_assign_259 : decode cX5_assign 259 = .ok (.ireturn, 1) := by decide +kernel
theorem dX5_assign_260 : decode cX5_assign 260 = .ok (.aload_n 0, 1) := by decide +kernel
theorem dX5_assign_261 : decode cX5_assign 261 = .ok (.getfield 15, 3) := by decide +kernel
theorem dX5_assign_264 : decode cX5_assign 264 = .ok (.getfield 281, 3) := by decide +kernel
theorem dX5_assign_267 : decode cX5_assign 267 = .ok (.iload_n 3, 1) := by decide +kernel
theorem dX5_assign_268 : decode cX5_assign 268 = .ok (.invokevirtual 69, 3) := by decide +kernel
theorem dX5_assign_271 : decode cX5_assign 271 = .ok (.ifCond .eq 20, 3) := by decide +kernel
theorem dX5_assign_274 : decode cX5_assign 274 = .ok (.aload_n 0, 1) := by decide +kernel
theorem dX5_assign_275 : decode cX5_assign 275 = .ok (.aload_n 1, 1) := by decide +kernel
theorem dX5_assign_276 : decode cX5_assign 276 = .ok (.aload_n 0, 1) := by decide +kernel
theorem dX5_assign_277 : decode cX5_assign 277 = .ok (.getfield 23, 3) := by decide +kernel
theorem dX5_assign_280 : decode cX5_assign 280 = .ok (.getfield 287, 3) := by decide +kernel
theorem dX5_assign_283 : decode cX5_assign 283 = .ok (.iload_n 3, 1) := by decide +kernel
theorem dX5_assign_284 : decode cX5_assign 284 = .ok (.iaload, 1) := by decide +kernel
theorem dX5_assign_285 : decode cX5_assign 285 = .ok (.invokevirtual 299, 3) := by decide +kernel
theorem dX5_assign_288 : decode cX5_assign 288 = .ok (.goto 4, 3) := by decide +kernel
theorem dX5_assign_291 : decode cX5_assign 291 = .ok (.iconst 2, 1) := by decide +kernel
theorem dX5_assign_292 : decode cX5_assign 292 = .ok (.ireturn, 1) := by decide +kernel
theorem dX5_assign_293 : decode cX5_assign 293 = .ok (.aload_n 0, 1) := by decide +kernel
theorem dX5_assign_294 : decode cX5_assign 294 = .ok (.aload_n 1, 1) := by decide +kernel
theorem dX5_assign_295 : decode cX5_assign 295 = .ok (.aload_n 0, 1) := by decide +kernel
theorem dX5_assign_296 : decode cX5_assign 296 = .ok (.getfield 23, 3) := by decide +kernel
theorem dX5_assign_299 : decode cX5_assign 299 = .ok (.iload_n 3, 1) := by decide +kernel
theorem dX5_assign_300 : decode cX5_assign 300 = .ok (.invokevirtual 302, 3) := by decide +kernel
theorem dX5_assign_303 : decode cX5_assign 303 = .ok (.invokevirtual 299, 3) := by decide +kernel
theorem dX5_assign_306 : decode cX5_assign 306 = .ok (.ireturn, 1) := by decide +kernel
theorem dX5_assign_307 : decode cX5_assign 307 = .ok (.aload_n 0, 1) := by decide +kernel
theorem dX5_assign_308 : decode cX5_assign 308 = .ok (.aload_n 1, 1) := by decide +kernel
theorem dX5_assign_309 : decode cX5_assign 309 = .ok (.aload_n 0, 1) := by decide +kernel
theorem dX5_assign_310 : decode cX5_assign 310 = .ok (.getfield 23, 3) := by decide +kernel
theorem dX5_assign_313 : decode cX5_assign 313 = .ok (.iload_n 3, 1) := by decide +kernel
theorem dX5_assign_314 : decode cX5_assign 314 = .ok (.invokevirtual 305, 3) := by decide +kernel
theorem dX5_assign_317 : decode cX5_assign 317 = .ok (.invokevirtual 299, 3) := by decide +kernel
theorem dX5_assign_320 : decode cX5_assign 320 = .ok (.ireturn, 1) := by decide +kernel
theorem dX5_assign_321 : decode cX5_assign 321 = .ok (.iconst 2, 1) := by decide +kernel
theorem dX5_assign_322 : decode cX5_assign 322 = .ok (.ireturn, 1) := by decide +kernel
theorem dX5_askActor_0 : decode cX5_askActor 0 = .ok (.aload_n 0, 1) := by decide +kernel
theorem dX5_askActor_1 : decode cX5_askActor 1 = .ok (.getfield 15, 3) := by decide +kernel
theorem dX5_askActor_4 : decode cX5_askActor 4 = .ok (.getfield 133, 3) := by decide +kernel
theorem dX5_askActor_7 : decode cX5_askActor 7 = .ok (.aload_n 0, 1) := by decide +kernel
theorem dX5_askActor_8 : decode cX5_askActor 8 = .ok (.getfield 9, 3) := by decide +kernel
theorem dX5_askActor_11 : decode cX5_askActor 11 = .ok (.iconst 0, 1) := by decide +kernel
theorem dX5_askActor_12 : decode cX5_askActor 12 = .ok (.iaload, 1) := by decide +kernel
theorem dX5_askActor_13 : decode cX5_askActor 13 = .ok (.invokevirtual 69, 3) := by decide +kernel
theorem dX5_askActor_16 : decode cX5_askActor 16 = .ok (.ifCond .ne 5, 3) := by decide +kernel
theorem dX5_askActor_19 : decode cX5_askActor 19 = .ok (.iconst 2, 1) := by decide +kernel
theorem dX5_askActor_20 : decode cX5_askActor 20 = .ok (.ireturn, 1) := by decide +kernel
theorem dX5_askActor_21 : decode cX5_askActor 21 = .ok (.aload_n 0, 1) := by decide +kernel
theorem dX5_askActor_22 : decode cX5_askActor 22 = .ok (.getfield 23, 3) := by decide +kernel
theorem dX5_askActor_25 : decode cX5_askActor 25 = .ok (.getfield 139, 3) := by decide +kernel
theorem dX5_askActor_28 : decode cX5_askActor 28 = .ok (.aload_n 0, 1) := by decide +kernel
theorem dX5_askActor_29 : decode cX5_askActor 29 = .ok (.getfield 9, 3) := by decide +kernel
theorem dX5_askActor_32 : decode cX5_askActor 32 = .ok (.iconst 0, 1) := by decide +kernel
theorem dX5_askActor_33 : decode cX5_askActor 33 = .ok (.iaload, 1) := by decide +kernel
theorem dX5_askActor_34 : decode cX5_askActor 34 = .ok (.aaload, 1) := by decide +kernel
theorem dX5_askActor_35 : decode cX5_askActor 35 = .ok (.astore_n 3, 1) := by decide +kernel
theorem dX5_askActor_36 : decode cX5_askActor 36 = .ok (.iload_n 2, 1) := by decide +kernel
theorem dX5_askActor_37 : decode cX5_askActor 37 = .ok (.tableswitch 97 23 27 #[35, 45, 55, 65, 79], 35) := by decide +kernel
theorem dX5_askActor_72 : decode cX5_askActor 72 = .ok (.aload_n 0, 1) := by decide +kernel
theorem dX5_askActor_73 : decode cX5_askActor 73 = .ok (.aload_n 1, 1) := by decide +kernel
theorem dX5_askActor_74 : decode cX5_askActor 74 = .ok (.aload_n 3, 1) := by decide +kernel
theorem dX5_askActor_75 : decode cX5_askActor 75 = .ok (.getfield 308, 3) := by decide +kernel
theorem dX5_askActor_78 : decode cX5_askActor 78 = .ok (.invokevirtual 299, 3) := by decide +kernel
theorem dX5_askActor_81 : decode cX5_askActor 81 = .ok (.ireturn, 1) := by decide +kernel
theorem dX5_askActor_82 : decode cX5_askActor 82 = .ok (.aload_n 0, 1) := by decide +kernel
theorem dX5_askActor_83 : decode cX5_askActor 83 = .ok (.aload_n 1, 1) := by decide +kernel
theorem dX5_askActor_84 : decode cX5_askActor 84 = .ok (.aload_n 3, 1) := by decide +kernel
theorem dX5_askActor_85 : decode cX5_askActor 85 = .ok (.getfield 311, 3) := by decide +kernel
theorem dX5_askActor_88 : decode cX5_askActor 88 = .ok (.invokevirtual 299, 3) := by decide +kernel
theorem dX5_askActor_91 : decode cX5_askActor 91 = .ok (.ireturn, 1) := by decide +kernel
theorem dX5_askActor_92 : decode cX5_askActor 92 = .ok (.aload_n 0, 1) := by decide +kernel
theorem dX5_askActor_93 : decode cX5_askActor 93 = .ok (.aload_n 1, 1) := by decide +kernel
theorem dX5_askActor_94 : decode cX5_askActor 94 = .ok (.aload_n 3, 1) := by decide +kernel
theorem dX5_askActor_95 : decode cX5_askActor 95 = .ok (.getfield 314, 3) := by decide +kernel
theorem dX5_askActor_98 : decode cX5_askActor 98 = .ok (.invokevirtual 299, 3) := by decide +kernel
theorem dX5_askActor_101 : decode cX5_askActor 101 = .ok (.ireturn, 1) := by decide +kernel
theorem dX5_askActor_102 : decode cX5_askActor 102 = .ok (.aload_n 0, 1) := by decide +kernel
theorem dX5_askActor_103 : decode cX5_askActor 103 = .ok (.aload_n 1, 1) := by decide +kernel
theorem dX5_askActor_104 : decode cX5_askActor 104 = .ok (.aload_n 0, 1) := by decide +kernel
theorem dX5_askActor_105 : decode cX5_askActor 105 = .ok (.getfield 27, 3) := by decide +kernel
theorem dX5_askActor_108 : decode cX5_askActor 108 = .ok (.aload_n 3, 1) := by decide +kernel
theorem dX5_askActor_109 : decode cX5_askActor 109 = .ok (.invokevirtual 317, 3) := by decide +kernel
theorem dX5_askActor_112 : decode cX5_askActor 112 = .ok (.invokevirtual 299, 3) := by decide +kernel
theorem dX5_askActor_115 : decode cX5_askActor 115 = .ok (.ireturn, 1) := by decide +kernel
theorem dX5_askActor_116 : decode cX5_askActor 116 = .ok (.aload_n 0, 1) := by decide +kernel
theorem dX5_askActor_117 : decode cX5_askActor 117 = .ok (.aload_n 1, 1) := by decide +kernel
theorem dX5_askActor_118 : decode cX5_askActor 118 = .ok (.aload_n 3, 1) := by decide +kernel
theorem dX5_askActor_119 : decode cX5_askActor 119 = .ok (.getfield 142, 3) := by decide +kernel
theorem dX5_askActor_122 : decode cX5_askActor 122 = .ok (.ifCond .eq 7, 3) := by decide +kernel
theorem dX5_askActor_125 : decode cX5_askActor 125 = .ok (.iconst 1, 1) := by decide +kernel
theorem dX5_askActor_126 : decode cX5_askActor 126 = .ok (.goto 4, 3) := by decide +kernel
theorem dX5_askActor_129 : decode cX5_askActor 129 = .ok (.iconst 0, 1) := by decide +kernel
theorem dX5_askActor_130 : decode cX5_askActor 130 = .ok (.invokevirtual 299, 3) := by decide +kernel
theorem dX5_askActor_133 : decode cX5_askActor 133 = .ok (.ireturn, 1) := by decide +kernel
theorem dX5_askActor_134 : decode cX5_askActor 134 = .ok (.iconst 2, 1) := by decide +kernel
theorem dX5_askActor_135 : decode cX5_askActor 135 = .ok (.ireturn, 1) := by decide +kernel
theorem dX5_askDistance_0 : decode cX5_askDistance 0 = .ok (.aload_n 0, 1) := by decide +kernel
theorem dX5_askDistance_1 : decode cX5_askDistance 1 = .ok (.getfield 9, 3) := by decide +kernel
theorem dX5_askDistance_4 : decode cX5_askDistance 4 = .ok (.iconst 1, 1) := by decide +kernel
theorem dX5_askDistance_5 : decode cX5_askDistance 5 = .ok (.iaload, 1) := by decide +kernel
theorem dX5_askDistance_6 : decode cX5_askDistance 6 = .ok (.istore_n 2, 1) := by decide +kernel
theorem dX5_askDistance_7 : decode cX5_askDistance 7 = .ok (.aload_n 0, 1) := by decide +kernel
theorem dX5_askDistance_8 : decode cX5_askDistance 8 = .ok (.getfield 15, 3) := by decide +kernel
theorem dX5_askDistance_11 : decode cX5_askDistance 11 = .ok (.getfield 133, 3) := by decide +kernel
theorem dX5_askDistance_14 : decode cX5_askDistance 14 = .ok (.aload_n 0, 1) := by decide +kernel
theorem dX5_askDistance_15 : decode cX5_askDistance 15 = .ok (.getfield 9, 3) := by decide +kernel
theorem dX5_askDistance_18 : decode cX5_askDistance 18 = .ok (.iconst 0, 1) := by decide +kernel
theorem dX5_askDistance_19 : decode cX5_askDistance 19 = .ok (.iaload, 1) := by decide +kernel
theorem dX5_askDistance_20 : decode cX5_askDistance 20 = .ok (.invokevirtual 69, 3) := by decide +kernel
theorem dX5_askDistance_23 : decode cX5_askDistance 23 = .ok (.ifCond .eq 17, 3) := by decide +kernel
theorem dX5_askDistance_26 : decode cX5_askDistance 26 = .ok (.aload_n 0, 1) := by decide +kernel
theorem dX5_askDistance_27 : decode cX5_askDistance 27 = .ok (.getfield 15, 3) := by decide +kernel
theorem dX5_askDistance_30 : decode cX5_askDistance 30 = .ok (.getfield 281, 3) := by decide +kernel
theorem dX5_askDistance_33 : decode cX5_askDistance 33 = .ok (.iload_n 2, 1) := by decide +kernel
theorem dX5_askDistance_34 : decode cX5_askDistance 34 = .ok (.invokevirtual 69, 3) := by decide +kernel
theorem dX5_askDistance_37 : decode cX5_askDistance 37 = .ok (.ifCond .ne 5, 3) := by decide +kernel
theorem dX5_askDistance_40 : decode cX5_askDistance 40 = .ok (.iconst 2, 1) := by decide +kernel
theorem dX5_askDistance_41 : decode cX5_askDistance 41 = .ok (.ireturn, 1) := by decide +kernel
theorem dX5_askDistance_42 : decode cX5_askDistance 42 = .ok (.aload_n 0, 1) := by decide +kernel
theorem dX5_askDistance_43 : decode cX5_askDistance 43 = .ok (.getfield 23, 3) := by decide +kernel
theorem dX5_askDistance_46 : decode cX5_askDistance 46 = .ok (.getfield 139, 3) := by decide +kernel
theorem dX5_askDistance_49 : decode cX5_askDistance 49 = .ok (.aload_n 0, 1) := by decide +kernel
theorem dX5_askDistance_50 : decode cX5_askDistance 50 = .ok (.getfield 9, 3) := by decide +kernel
theorem dX5_askDistance_53 : decode cX5_askDistance 53 = .ok (.iconst 0, 1) := by decide +kernel
theorem dX5_askDistance_54 : decode cX5_askDistance 54 = .ok (.iaload, 1) := by decide +kernel
theorem dX5_askDistance_55 : decode cX5_askDistance 55 = .ok (.aaload, 1) := by decide +kernel
theorem dX5_askDistance_56 : decode cX5_askDistance 56 = .ok (.astore_n 3, 1) := by decide +kernel
theorem dX5_askDistance_57 : decode cX5_askDistance 57 = .ok (.aload_n 0, 1) := by decide +kernel
theorem dX5_askDistance_58 : decode cX5_askDistance 58 = .ok (.getfield 15, 3) := by decide +kernel
theorem dX5_askDistance_61 : decode cX5_askDistance 61 = .ok (.iload_n 2, 1) := by decide +kernel
theorem dX5_askDistance_62 : decode cX5_askDistance 62 = .ok (.iconst 0, 1) := by decide +kernel
theorem dX5_askDistance_63 : decode cX5_askDistance 63 = .ok (.invokevirtual 321, 3) := by decide +kernel
theorem dX5_askDistance_66 : decode cX5_askDistance 66 = .ok (.aload_n 3, 1) := by decide +kernel
theorem dX5_askDistance_67 : decode cX5_askDistance 67 = .ok (.getfield 314, 3) := by decide +kernel
theorem dX5_askDistance_70 : decode cX5_askDistance 70 = .ok (.if_icmp .eq 12, 3) := by decide +kernel
theorem dX5_askDistance_73 : decode cX5_askDistance 73 = .ok (.aload_n 0, 1) := by decide +kernel
theorem dX5_askDistance_74 : decode cX5_askDistance 74 = .ok (.aload_n 1, 1) := by decide +kernel
theorem dX5_askDistance_75 : decode cX5_askDistance 75 = .ok (.sipush 999, 3) := by decide +kernel
theorem dX5_askDistance_78 : decode cX5_askDistance 78 = .ok (.invokevirtual 299, 3) := by decide +kernel
theorem dX5_askDistance_81 : decode cX5_askDistance 81 = .ok (.ireturn, 1) := by decide +kernel
theorem dX5_askDistance_82 : decode cX5_askDistance 82 = .ok (.aload_n 0, 1) := by decide +kernel
theorem dX5_askDistance_83 : decode cX5_askDistance 83 = .ok (.getfield 15, 3) := by decide +kernel
theorem dX5_askDistance_86 : decode cX5_askDistance 86 = .ok (.iload_n 2, 1) := by decide +kernel
theorem dX5_askDistance_87 : decode cX5_askDistance 87 = .ok (.iconst 1, 1) := by decide +kernel
theorem dX5_askDistance_88 : decode cX5_askDistance 88 = .ok (.invokevirtual 321, 3) := by decide +kernel
theorem dX5_askDistance_91 : decode cX5_askDistance 91 = .ok (.aload_n 3, 1) := by decide +kernel
theorem dX5_askDistance_92 : decode cX5_askDistance 92 = .ok (.getfield 308, 3) := by decide +kernel
theorem dX5_askDistance_95 : decode cX5_askDistance 95 = .ok (.isub, 1) := by decide +kernel
theorem dX5_askDistance_96 : decode cX5_askDistance 96 = .ok (.invokestatic 324, 3) := by decide +kernel
theorem dX5_askDistance_99 : decode cX5_askDistance 99 = .ok (.istore 4, 2) := by decide +kernel
theorem dX5_askDistance_101 : decode cX5_askDistance 101 = .ok (.aload_n 0, 1) := by decide +kernel
theorem dX5_askDistance_102 : decode cX5_askDistance 102 = .ok (.getfield 15, 3) := by decide +kernel
theorem dX5_askDistance_105 : decode cX5_askDistance 105 = .ok (.iload_n 2, 1) := by decide +kernel
theorem dX5_askDistance_106 : decode cX5_askDistance 106 = .ok (.iconst 2, 1) := by decide +kernel
theorem dX5_askDistance_107 : decode cX5_askDistance 107 = .ok (.invokevirtual 321, 3) := by decide +kernel
theorem dX5_askDistance_110 : decode cX5_askDistance 110 = .ok (.aload_n 3, 1) := by decide +kernel
theorem dX5_askDistance_111 : decode cX5_askDistance 111 = .ok (.getfield 311, 3) := by decide +kernel
theorem dX5_askDistance_114 : decode cX5_askDistance 114 = .ok (.isub, 1) := by decide +kernel
theorem dX5_askDistance_115 : decode cX5_askDistance 115 = .ok (.invokestatic 324, 3) := by decide +kernel
theorem dX5_askDistance_118 : decode cX5_askDistance 118 = .ok (.istore 5, 2) := by decide +kernel
theorem dX5_askDistance_120 : decode cX5_askDistance 120 = .ok (.aload_n 0, 1) := by decide +kernel
theorem dX5_askDistance_121 : decode cX5_askDistance 121 = .ok (.aload_n 1, 1) := by decide +kernel
theorem dX5_askDistance_122 : decode cX5_askDistance 122 = .ok (.iload 4, 2) := by decide +kernel
theorem dX5_askDistance_124 : decode cX5_askDistance 124 = .ok (.iload 5, 2) := by decide +kernel
theorem dX5_askDistance_126 : decode cX5_askDistance 126 = .ok (.iadd, 1) := by decide +kernel
theorem dX5_askDistance_127 : decode cX5_askDistance 127 = .ok (.invokevirtual 299, 3) := by decide +kernel
theorem dX5_askDistance_130 : decode cX5_askDistance 130 = .ok (.ireturn, 1) := by decide +kernel
theorem dX10_init_0 : decode cX10_init 0 = .ok (.aload_n 0, 1) := by decide +kernel
theorem dX10_init_1 : decode cX10_init 1 = .ok (.invokespecial 1, 3) := by decide +kernel
theorem dX10_init_4 : decode cX10_init 4 = .ok (.aload_n 0, 1) := by decide +kernel
theorem dX10_init_5 : decode cX10_init 5 = .ok (.new 7, 3) := by decide +kernel
theorem dX10_init_8 : decode cX10_init 8 = .ok (.dup, 1) := by decide +kernel
theorem dX10_init_9 : decode cX10_init 9 = .ok (.invokespecial 9, 3) := by decide +kernel
theorem dX10_init_12 : decode cX10_init 12 = .ok (.putfield 10, 3) := by decide +kernel
theorem dX10_init_15 : decode cX10_init 15 = .ok (.aload_n 0, 1) := by decide +kernel
theorem dX10_init_16 : decode cX10_init 16 = .ok (.new 7, 3) := by decide +kernel
theorem dX10_init_19 : decode cX10_init 19 = .ok (.dup, 1) := by decide +kernel
theorem dX10_init_20 : decode cX10_init 20 = .ok (.invokespecial 9, 3) := by decide +kernel
theorem dX10_init_23 : decode cX10_init 23 = .ok (.putfield 16, 3) := by decide +kernel
theorem dX10_init_26 : decode cX10_init 26 = .ok (.aload_n 0, 1) := by decide +kernel
theorem dX10_init_27 : decode cX10_init 27 = .ok (.new 19, 3) := by decide +kernel
theorem dX10_init_30 : decode cX10_init 30 = .ok (.dup, 1) := by decide +kernel
theorem dX10_init_31 : decode cX10_init 31 = .ok (.aload_n 0, 1) := by decide +kernel
theorem dX10_init_32 : decode cX10_init 32 = .ok (.getfield 10, 3) := by decide +kernel
theorem dX10_init_35 : decode cX10_init 35 = .ok (.invokespecial 21, 3) := by decide +kernel
theorem dX10_init_38 : decode cX10_init 38 = .ok (.putfield 24, 3) := by decide +kernel
theorem dX10_init_41 : decode cX10_init 41 = .ok (.aload_n 0, 1) := by decide +kernel
theorem dX10_init_42 : decode cX10_init 42 = .ok (.new 28, 3) := by decide +kernel
theorem dX10_init_45 : decode cX10_init 45 = .ok (.dup, 1) := by decide +kernel
theorem dX10_init_46 : decode cX10_init 46 = .ok (.invokespecial 30, 3) := by decide +kernel
theorem dX10_init_49 : decode cX10_init 49 = .ok (.putfield 31, 3) := by decide +kernel
theorem dX10_init_52 : decode cX10_init 52 = .ok (.aload_n 0, 1) := by decide +kernel
theorem dX10_init_53 : decode cX10_init 53 = .ok (.new 28, 3) := by decide +kernel
theorem dX10_init_56 : decode cX10_init 56 = .ok (.dup, 1) := by decide +kernel
theorem dX10_init_57 : decode cX10_init 57 = .ok (.invokespecial 30, 3) := by decide +kernel
theorem dX10_init_60 : decode cX10_init 60 = .ok (.putfield 35, 3) := by decide +kernel
theorem dX10_init_63 : decode cX10_init 63 = .ok (.aload_n 0, 1) := by decide +kernel
theorem dX10_init_64 : decode cX10_init 64 = .ok (.new 38, 3) := by decide +kernel
theorem dX10_init_67 : decode cX10_init 67 = .ok (.dup, 1) := by decide +kernel
theorem dX10_init_68 : decode cX10_init 68 = .ok (.invokespecial 40, 3) := by decide +kernel
theorem dX10_init_71 : decode cX10_init 71 = .ok (.putfield 41, 3) := by decide +kernel
theorem dX10_init_74 : decode cX10_init 74 = .ok (.aload_n 0, 1) := by decide +kernel
theorem dX10_init_75 : decode cX10_init 75 = .ok (.new 45, 3) := by decide +kernel
theorem dX10_init_78 : decode cX10_init 78 = .ok (.dup, 1) := by decide +kernel
theorem dX10_init_79 : decode cX10_init 79 = .ok (.aload_n 0, 1) := by decide +kernel
theorem dX10_init_80 : decode cX10_init 80 = .ok (.getfield 16, 3) := by decide +kernel
theorem dX10_init_83 : decode cX10_init 83 = .ok (.aload_n 0, 1) := by decide +kernel
theorem dX10_init_84 : decode cX10_init 84 = .ok (.getfield 41, 3) := by decide +kernel
theorem dX10_init_87 : decode cX10_init 87 = .ok (.aload_n 0, 1) := by decide +kernel
theorem dX10_init_88 : decode cX10_init 88 = .ok (.getfield 31, 3) := by decide +kernel
theorem dX10_init_91 : decode cX10_init 91 = .ok (.invokespecial 47, 3) := by decide +kernel
theorem dX10_init_94 : decode cX10_init 94 = .ok (.putfield 50, 3) := by decide +kernel
theorem dX10_init_97 : decode cX10_init 97 = .ok (.aload_n 0, 1) := by decide +kernel
theorem dX10_init_98 : decode cX10_init 98 = .ok (.new 54, 3) := by decide +kernel
theorem dX10_init_101 : decode cX10_init 101 = .ok (.dup, 1) := by decide +kernel
theorem dX10_init_102 : decode cX10_init 102 = .ok (.aload_n 0, 1) := by decide +kernel
theorem dX10_init_103 : decode cX10_init 103 = .ok (.getfield 16, 3) := by decide +kernel
theorem dX10_init_106 : decode cX10_init 106 = .ok (.aload_n 0, 1) := by decide +kernel
theorem dX10_init_107 : decode cX10_init 107 = .ok (.getfield 41, 3) := by decide +kernel
theorem dX10_init_110 : decode cX10_init 110 = .ok (.aload_n 0, 1) := by decide +kernel
theorem dX10_init_111 : decode cX10_init 111 = .ok (.getfield 31, 3) := by decide +kernel
theorem dX10_init_114 : decode cX10_init 114 = .ok (.aload_n 0, 1) := by decide +kernel
theorem dX10_init_115 : decode cX10_init 115 = .ok (.getfield 50, 3) := by decide +kernel
theorem dX10_init_118 : decode cX10_init 118 = .ok (.invokespecial 56, 3) := by decide +kernel
theorem dX10_init_121 : decode cX10_init 121 = .ok (.putfield 59, 3) := by decide +kernel
theorem dX10_init_124 : decode cX10_init 124 = .ok (.return_, 1) := by decide +kernel
theorem dX10_feed_0 : decode cX10_feed 0 = .ok (.aload_n 0, 1) := by decide +kernel
theorem dX10_feed_1 : decode cX10_feed 1 = .ok (.getfield 10, 3) := by decide +kernel
theorem dX10_feed_4 : decode cX10_feed 4 = .ok (.getfield 63, 3) := by decide +kernel
theorem dX10_feed_7 : decode cX10_feed 7 = .ok (.astore 6, 2) := by decide +kernel
theorem dX10_feed_9 : decode cX10_feed 9 = .ok (.aload 6, 2) := by decide +kernel
theorem dX10_feed_11 : decode cX10_feed 11 = .ok (.getfield 67, 3) := by decide +kernel
theorem dX10_feed_14 : decode cX10_feed 14 = .ok (.bipush 20, 2) := by decide +kernel
theorem dX10_feed_16 : decode cX10_feed 16 = .ok (.iadd, 1) := by decide +kernel
theorem dX10_feed_17 : decode cX10_feed 17 = .ok (.sipush 6000, 3) := by decide +kernel
theorem dX10_feed_20 : decode cX10_feed 20 = .ok (.if_icmp .le 5, 3) := by decide +kernel
theorem dX10_feed_23 : decode cX10_feed 23 = .ok (.iconst (-1), 1) := by decide +kernel
theorem dX10_feed_24 : decode cX10_feed 24 = .ok (.ireturn, 1) := by decide +kernel
theorem dX10_feed_25 : decode cX10_feed 25 = .ok (.aload 6, 2) := by decide +kernel
theorem dX10_feed_27 : decode cX10_feed 27 = .ok (.iload_n 1, 1) := by decide +kernel
theorem dX10_feed_28 : decode cX10_feed 28 = .ok (.invokevirtual 73, 3) := by decide +kernel
theorem dX10_feed_31 : decode cX10_feed 31 = .ok (.aload 6, 2) := by decide +kernel
theorem dX10_feed_33 : decode cX10_feed 33 = .ok (.iload_n 2, 1) := by decide +kernel
theorem dX10_feed_34 : decode cX10_feed 34 = .ok (.invokevirtual 73, 3) := by decide +kernel
theorem dX10_feed_37 : decode cX10_feed 37 = .ok (.aload 6, 2) := by decide +kernel
theorem dX10_feed_39 : decode cX10_feed 39 = .ok (.iload_n 3, 1) := by decide +kernel
theorem dX10_feed_40 : decode cX10_feed 40 = .ok (.invokevirtual 73, 3) := by decide +kernel
theorem dX10_feed_43 : decode cX10_feed 43 = .ok (.aload 6, 2) := by decide +kernel
theorem dX10_feed_45 : decode cX10_feed 45 = .ok (.iload 4, 2) := by decide +kernel
theorem dX10_feed_47 : decode cX10_feed 47 = .ok (.invokevirtual 73, 3) := by decide +kernel
theorem dX10_feed_50 : decode cX10_feed 50 = .ok (.aload 6, 2) := by decide +kernel
theorem dX10_feed_52 : decode cX10_feed 52 = .ok (.iload 5, 2) := by decide +kernel
theorem dX10_feed_54 : decode cX10_feed 54 = .ok (.invokevirtual 73, 3) := by decide +kernel
theorem dX10_feed_57 : decode cX10_feed 57 = .ok (.aload 6, 2) := by decide +kernel
theorem dX10_feed_59 : decode cX10_feed 59 = .ok (.getfield 67, 3) := by decide +kernel
theorem dX10_feed_62 : decode cX10_feed 62 = .ok (.ireturn, 1) := by decide +kernel
theorem dX10_end_0 : decode cX10_end 0 = .ok (.aload_n 0, 1) := by decide +kernel
theorem dX10_end_1 : decode cX10_end 1 = .ok (.getfield 10, 3) := by decide +kernel
theorem dX10_end_4 : decode cX10_end 4 = .ok (.getfield 63, 3) := by decide +kernel
theorem dX10_end_7 : decode cX10_end 7 = .ok (.iload_n 1, 1) := by decide +kernel
theorem dX10_end_8 : decode cX10_end 8 = .ok (.invokevirtual 77, 3) := by decide +kernel
theorem dX10_end_11 : decode cX10_end 11 = .ok (.ireturn, 1) := by decide +kernel
theorem dX10_play_0 : decode cX10_play 0 = .ok (.aload_n 0, 1) := by decide +kernel
theorem dX10_play_1 : decode cX10_play 1 = .ok (.getfield 24, 3) := by decide +kernel
theorem dX10_play_4 : decode cX10_play 4 = .ok (.invokevirtual 81, 3) := by decide +kernel
theorem dX10_play_7 : decode cX10_play 7 = .ok (.istore_n 1, 1) := by decide +kernel
theorem dX10_play_8 : decode cX10_play 8 = .ok (.iload_n 1, 1) := by decide +kernel
theorem dX10_play_9 : decode cX10_play 9 = .ok (.iconst (-1), 1) := by decide +kernel
theorem dX10_play_10 : decode cX10_play 10 = .ok (.if_icmp .ne 25, 3) := by decide +kernel
theorem dX10_play_13 : decode cX10_play 13 = .ok (.aload_n 0, 1) := by decide +kernel
theorem dX10_play_14 : decode cX10_play 14 = .ok (.getfield 10, 3) := by decide +kernel
theorem dX10_play_17 : decode cX10_play 17 = .ok (.getfield 63, 3) := by decide +kernel
theorem dX10_play_20 : decode cX10_play 20 = .ok (.iconst 0, 1) := by decide +kernel
theorem dX10_play_21 : decode cX10_play 21 = .ok (.invokevirtual 77, 3) := by decide +kernel
theorem dX10_play_24 : decode cX10_play 24 = .ok (.pop, 1) := by decide +kernel
theorem dX10_play_25 : decode cX10_play 25 = .ok (.new 85, 3) := by decide +kernel
theorem dX10_play_28 : decode cX10_play 28 = .ok (.dup, 1) := by decide +kernel
theorem dX10_play_29 : decode cX10_play 29 = .ok (.ldc 87, 2) := by decide +kernel
theorem dX10_play_31 : decode cX10_play 31 = .ok (.invokespecial 89, 3) := by decide +kernel
theorem dX10_play_34 : decode cX10_play 34 = .ok (.athrow, 1) := by decide +kernel
theorem dX10_play_35 : decode cX10_play 35 = .ok (.aload_n 0, 1) := by decide +kernel
theorem dX10_play_36 : decode cX10_play 36 = .ok (.getfield 16, 3) := by decide +kernel
theorem dX10_play_39 : decode cX10_play 39 = .ok (.aload_n 0, 1) := by decide +kernel
theorem dX10_play_40 : decode cX10_play 40 = .ok (.getfield 10, 3) := by decide +kernel
theorem dX10_play_43 : decode cX10_play 43 = .ok (.invokevirtual 92, 3) := by decide +kernel
theorem dX10_play_46 : decode cX10_play 46 = .ok (.aload_n 0, 1) := by decide +kernel
theorem dX10_play_47 : decode cX10_play 47 = .ok (.getfield 10, 3) := by decide +kernel
theorem dX10_play_50 : decode cX10_play 50 = .ok (.getfield 63, 3) := by decide +kernel
theorem dX10_play_53 : decode cX10_play 53 = .ok (.iconst 0, 1) := by decide +kernel
theorem dX10_play_54 : decode cX10_play 54 = .ok (.invokevirtual 77, 3) := by decide +kernel
theorem dX10_play_57 : decode cX10_play 57 = .ok (.pop, 1) := by decide +kernel
theorem dX10_play_58 : decode cX10_play 58 = .ok (.aload_n 0, 1) := by decide +kernel
theorem dX10_play_59 : decode cX10_play 59 = .ok (.getfield 41, 3) := by decide +kernel
theorem dX10_play_62 : decode cX10_play 62 = .ok (.aload_n 0, 1) := by decide +kernel
theorem dX10_play_63 : decode cX10_play 63 = .ok (.getfield 16, 3) := by decide +kernel
theorem dX10_play_66 : decode cX10_play 66 = .ok (.invokevirtual 95, 3) := by decide +kernel
theorem dX10_play_69 : decode cX10_play 69 = .ok (.aload_n 0, 1) := by decide +kernel
theorem dX10_play_70 : decode cX10_play 70 = .ok (.getfield 31, 3) := by decide +kernel
theorem dX10_play_73 : decode cX10_play 73 = .ok (.aload_n 0, 1) := by decide +kernel
theorem dX10_play_74 : decode cX10_play 74 = .ok (.getfield 16, 3) := by decide +kernel
theorem dX10_play_77 : decode cX10_play 77 = .ok (.invokevirtual 98, 3) := by decide +kernel
theorem dX10_play_80 : decode cX10_play 80 = .ok (.aload_n 0, 1) := by decide +kernel
theorem dX10_play_81 : decode cX10_play 81 = .ok (.iconst 0, 1) := by decide +kernel
theorem dX10_play_82 : decode cX10_play 82 = .ok (.putfield 101, 3) := by decide +kernel
theorem dX10_play_85 : decode cX10_play 85 = .ok (.iload_n 1, 1) := by decide +kernel
theorem dX10_play_86 : decode cX10_play 86 = .ok (.ireturn, 1) := by decide +kernel
theorem dX10_fault_0 : decode cX10_fault 0 = .ok (.iload_n 1, 1) := by decide +kernel
theorem dX10_fault_1 : decode cX10_fault 1 = .ok (.ifCond .ne 11, 3) := by decide +kernel
theorem dX10_fault_4 : decode cX10_fault 4 = .ok (.aload_n 0, 1) := by decide +kernel
theorem dX10_fault_5 : decode cX10_fault 5 = .ok (.getfield 24, 3) := by decide +kernel
theorem dX10_fault_8 : decode cX10_fault 8 = .ok (.getfield 105, 3) := by decide +kernel
theorem dX10_fault_11 : decode cX10_fault 11 = .ok (.ireturn, 1) := by decide +kernel
theorem dX10_fault_12 : decode cX10_fault 12 = .ok (.iload_n 1, 1) := by decide +kernel
theorem dX10_fault_13 : decode cX10_fault 13 = .ok (.iconst 1, 1) := by decide +kernel
theorem dX10_fault_14 : decode cX10_fault 14 = .ok (.if_icmp .ne 13, 3) := by decide +kernel
theorem dX10_fault_17 : decode cX10_fault 17 = .ok (.aload_n 0, 1) := by decide +kernel
theorem dX10_fault_18 : decode cX10_fault 18 = .ok (.getfield 24, 3) := by decide +kernel
theorem dX10_fault_21 : decode cX10_fault 21 = .ok (.getfield 108, 3) := by decide +kernel
theorem dX10_fault_24 : decode cX10_fault 24 = .ok (.goto 4, 3) := by decide +kernel
theorem dX10_fault_27 : decode cX10_fault 27 = .ok (.iconst (-1), 1) := by decide +kernel
theorem dX10_fault_28 : decode cX10_fault 28 = .ok (.ireturn, 1) := by decide +kernel
theorem dX10_tick_0 : decode cX10_tick 0 = .ok (.iload_n 1, 1) := by decide +kernel
theorem dX10_tick_1 : decode cX10_tick 1 = .ok (.ifCond .lt 10, 3) := by decide +kernel
theorem dX10_tick_4 : decode cX10_tick 4 = .ok (.iload_n 1, 1) := by decide +kernel
theorem dX10_tick_5 : decode cX10_tick 5 = .ok (.sipush 200, 3) := by decide +kernel
theorem dX10_tick_8 : decode cX10_tick 8 = .ok (.if_icmp .le 5, 3) := by decide +kernel
theorem dX10_tick_11 : decode cX10_tick 11 = .ok (.iconst (-1), 1) := by decide +kernel
theorem dX10_tick_12 : decode cX10_tick 12 = .ok (.ireturn, 1) := by decide +kernel
theorem dX10_tick_13 : decode cX10_tick 13 = .ok (.iconst 0, 1) := by decide +kernel
theorem dX10_tick_14 : decode cX10_tick 14 = .ok (.istore_n 2, 1) := by decide +kernel
theorem dX10_tick_15 : decode cX10_tick 15 = .ok (.iconst 0, 1) := by decide +kernel
theorem dX10_tick_16 : decode cX10_tick 16 = .ok (.istore_n 3, 1) := by decide +kernel
theorem dX10_tick_17 : decode cX10_tick 17 = .ok (.iload_n 3, 1) := by decide +kernel
theorem dX10_tick_18 : decode cX10_tick 18 = .ok (.iload_n 1, 1) := by decide +kernel
theorem dX10_tick_19 : decode cX10_tick 19 = .ok (.if_icmp .ge 19, 3) := by decide +kernel
theorem dX10_tick_22 : decode cX10_tick 22 = .ok (.iload_n 2, 1) := by decide +kernel
theorem dX10_tick_23 : decode cX10_tick 23 = .ok (.aload_n 0, 1) := by decide +kernel
theorem dX10_tick_24 : decode cX10_tick 24 = .ok (.getfield 59, 3) := by decide +kernel
theorem dX10_tick_27 : decode cX10_tick 27 = .ok (.invokevirtual 111, 3) := by decide +kernel
theorem dX10_tick_30 : decode cX10_tick 30 = .ok (.iadd, 1) := by decide +kernel
theorem dX10_tick_31 : decode cX10_tick 31 = .ok (.istore_n 2, 1) := by decide +kernel
theorem dX10_tick_32 : decode cX10_tick 32 = .ok (.iinc 3 1, 3) := by decide +kernel
theorem dX10_tick_35 : decode cX10_tick 35 = .ok (.goto (-18), 3) := by decide +kernel
theorem dX10_tick_38 : decode cX10_tick 38 = .ok (.iload_n 2, 1) := by decide +kernel
theorem dX10_tick_39 : decode cX10_tick 39 = .ok (.ireturn, 1) := by decide +kernel
theorem dX10_start_0 : decode cX10_start 0 = .ok (.aload_n 0, 1) := by decide +kernel
theorem dX10_start_1 : decode cX10_start 1 = .ok (.getfield 59, 3) := by decide +kernel
theorem dX10_start_4 : decode cX10_start 4 = .ok (.iload_n 1, 1) := by decide +kernel
theorem dX10_start_5 : decode cX10_start 5 = .ok (.iconst 0, 1) := by decide +kernel
theorem dX10_start_6 : decode cX10_start 6 = .ok (.invokevirtual 114, 3) := by decide +kernel
theorem dX10_start_9 : decode cX10_start 9 = .ok (.ireturn, 1) := by decide +kernel
theorem dX10_say_0 : decode cX10_say 0 = .ok (.aload_n 0, 1) := by decide +kernel
theorem dX10_say_1 : decode cX10_say 1 = .ok (.getfield 31, 3) := by decide +kernel
theorem dX10_say_4 : decode cX10_say 4 = .ok (.iload_n 1, 1) := by decide +kernel
theorem dX10_say_5 : decode cX10_say 5 = .ok (.iload_n 2, 1) := by decide +kernel
theorem dX10_say_6 : decode cX10_say 6 = .ok (.iload_n 3, 1) := by decide +kernel
theorem dX10_say_7 : decode cX10_say 7 = .ok (.invokevirtual 118, 3) := by decide +kernel
theorem dX10_say_10 : decode cX10_say 10 = .ok (.ifCond .eq 13, 3) := by decide +kernel
theorem dX10_say_13 : decode cX10_say 13 = .ok (.aload_n 0, 1) := by decide +kernel
theorem dX10_say_14 : decode cX10_say 14 = .ok (.getfield 31, 3) := by decide +kernel
theorem dX10_say_17 : decode cX10_say 17 = .ok (.getfield 122, 3) := by decide +kernel
theorem dX10_say_20 : decode cX10_say 20 = .ok (.goto 4, 3) := by decide +kernel
theorem dX10_say_23 : decode cX10_say 23 = .ok (.iconst (-1), 1) := by decide +kernel
theorem dX10_say_24 : decode cX10_say 24 = .ok (.ireturn, 1) := by decide +kernel
theorem dX10_walk_0 : decode cX10_walk 0 = .ok (.aload_n 0, 1) := by decide +kernel
theorem dX10_walk_1 : decode cX10_walk 1 = .ok (.getfield 50, 3) := by decide +kernel
theorem dX10_walk_4 : decode cX10_walk 4 = .ok (.iload_n 1, 1) := by decide +kernel
theorem dX10_walk_5 : decode cX10_walk 5 = .ok (.iload_n 2, 1) := by decide +kernel
theorem dX10_walk_6 : decode cX10_walk 6 = .ok (.iload_n 3, 1) := by decide +kernel
theorem dX10_walk_7 : decode cX10_walk 7 = .ok (.invokevirtual 125, 3) := by decide +kernel
theorem dX10_walk_10 : decode cX10_walk 10 = .ok (.ireturn, 1) := by decide +kernel
theorem dX10_set_0 : decode cX10_set 0 = .ok (.iload_n 1, 1) := by decide +kernel
theorem dX10_set_1 : decode cX10_set 1 = .ok (.ifCond .lt 9, 3) := by decide +kernel
theorem dX10_set_4 : decode cX10_set 4 = .ok (.iload_n 1, 1) := by decide +kernel
theorem dX10_set_5 : decode cX10_set 5 = .ok (.bipush 64, 2) := by decide +kernel
theorem dX10_set_7 : decode cX10_set 7 = .ok (.if_icmp .lt 13, 3) := by decide +kernel
theorem dX10_set_10 : decode cX10_set 10 = .ok (.new 128, 3) := by decide +kernel
theorem dX10_set_13 : decode cX10_set 13 = .ok (.dup, 1) := by decide +kernel
theorem dX10_set_14 : decode cX10_set 14 = .ok (.ldc 130, 2) := by decide +kernel
theorem dX10_set_16 : decode cX10_set 16 = .ok (.invokespecial 132, 3) := by decide +kernel
theorem dX10_set_19 : decode cX10_set 19 = .ok (.athrow, 1) := by decide +kernel
theorem dX10_set_20 : decode cX10_set 20 = .ok (.aload_n 0, 1) := by decide +kernel
theorem dX10_set_21 : decode cX10_set 21 = .ok (.getfield 31, 3) := by decide +kernel
theorem dX10_set_24 : decode cX10_set 24 = .ok (.getfield 133, 3) := by decide +kernel
theorem dX10_set_27 : decode cX10_set 27 = .ok (.iload_n 1, 1) := by decide +kernel
theorem dX10_set_28 : decode cX10_set 28 = .ok (.iaload, 1) := by decide +kernel
theorem dX10_set_29 : decode cX10_set 29 = .ok (.istore_n 3, 1) := by decide +kernel
theorem dX10_set_30 : decode cX10_set 30 = .ok (.aload_n 0, 1) := by decide +kernel
theorem dX10_set_31 : decode cX10_set 31 = .ok (.getfield 31, 3) := by decide +kernel
theorem dX10_set_34 : decode cX10_set 34 = .ok (.getfield 133, 3) := by decide +kernel
theorem dX10_set_37 : decode cX10_set 37 = .ok (.iload_n 1, 1) := by decide +kernel
theorem dX10_set_38 : decode cX10_set 38 = .ok (.iload_n 2, 1) := by decide +kernel
theorem dX10_set_39 : decode cX10_set 39 = .ok (.iastore, 1) := by decide +kernel
theorem dX10_set_40 : decode cX10_set 40 = .ok (.iload_n 3, 1) := by decide +kernel
theorem dX10_set_41 : decode cX10_set 41 = .ok (.ireturn, 1) := by decide +kernel
theorem dX10_variable_0 : decode cX10_variable 0 = .ok (.iload_n 1, 1) := by decide +kernel
theorem dX10_variable_1 : decode cX10_variable 1 = .ok (.ifCond .lt 9, 3) := by decide +kernel
theorem dX10_variable_4 : decode cX10_variable 4 = .ok (.iload_n 1, 1) := by decide +kernel
theorem dX10_variable_5 : decode cX10_variable 5 = .ok (.bipush 64, 2) := by decide +kernel
theorem dX10_variable_7 : decode cX10_variable 7 = .ok (.if_icmp .lt 13, 3) := by decide +kernel
theorem dX10_variable_10 : decode cX10_variable 10 = .ok (.new 128, 3) := by decide +kernel
theorem dX10_variable_13 : decode cX10_variable 13 = .ok (.dup, 1) := by decide +kernel
theorem dX10_variable_14 : decode cX10_variable 14 = .ok (.ldc 130, 2) := by decide +kernel
theorem dX10_variable_16 : decode cX10_variable 16 = .ok (.invokespecial 132, 3) := by decide +kernel
theorem dX10_variable_19 : decode cX10_variable 19 = .ok (.athrow, 1) := by decide +kernel
theorem dX10_variable_20 : decode cX10_variable 20 = .ok (.aload_n 0, 1) := by decide +kernel
theorem dX10_variable_21 : decode cX10_variable 21 = .ok (.getfield 31, 3) := by decide +kernel
theorem dX10_variable_24 : decode cX10_variable 24 = .ok (.getfield 133, 3) := by decide +kernel
theorem dX10_variable_27 : decode cX10_variable 27 = .ok (.iload_n 1, 1) := by decide +kernel
theorem dX10_variable_28 : decode cX10_variable 28 = .ok (.iaload, 1) := by decide +kernel
theorem dX10_variable_29 : decode cX10_variable 29 = .ok (.ireturn, 1) := by decide +kernel
theorem dX10_slot_0 : decode cX10_slot 0 = .ok (.iload_n 1, 1) := by decide +kernel
theorem dX10_slot_1 : decode cX10_slot 1 = .ok (.ifCond .lt 9, 3) := by decide +kernel
theorem dX10_slot_4 : decode cX10_slot 4 = .ok (.iload_n 1, 1) := by decide +kernel
theorem dX10_slot_5 : decode cX10_slot 5 = .ok (.bipush 8, 2) := by decide +kernel
theorem dX10_slot_7 : decode cX10_slot 7 = .ok (.if_icmp .lt 5, 3) := by decide +kernel
theorem dX10_slot_10 : decode cX10_slot 10 = .ok (.iconst (-1), 1) := by decide +kernel
theorem dX10_slot_11 : decode cX10_slot 11 = .ok (.ireturn, 1) := by decide +kernel
theorem dX10_slot_12 : decode cX10_slot 12 = .ok (.aload_n 0, 1) := by decide +kernel
theorem dX10_slot_13 : decode cX10_slot 13 = .ok (.getfield 31, 3) := by decide +kernel
theorem dX10_slot_16 : decode cX10_slot 16 = .ok (.getfield 137, 3) := by decide +kernel
theorem dX10_slot_19 : decode cX10_slot 19 = .ok (.iload_n 1, 1) := by decide +kernel
theorem dX10_slot_20 : decode cX10_slot 20 = .ok (.aaload, 1) := by decide +kernel
theorem dX10_slot_21 : decode cX10_slot 21 = .ok (.iload_n 2, 1) := by decide +kernel
theorem dX10_slot_22 : decode cX10_slot 22 = .ok (.invokevirtual 141, 3) := by decide +kernel
theorem dX10_slot_25 : decode cX10_slot 25 = .ok (.ireturn, 1) := by decide +kernel
theorem dX10_actor_0 : decode cX10_actor 0 = .ok (.aload_n 0, 1) := by decide +kernel
theorem dX10_actor_1 : decode cX10_actor 1 = .ok (.getfield 16, 3) := by decide +kernel
theorem dX10_actor_4 : decode cX10_actor 4 = .ok (.getfield 147, 3) := by decide +kernel
theorem dX10_actor_7 : decode cX10_actor 7 = .ok (.iload_n 1, 1) := by decide +kernel
theorem dX10_actor_8 : decode cX10_actor 8 = .ok (.invokevirtual 151, 3) := by decide +kernel
theorem dX10_actor_11 : decode cX10_actor 11 = .ok (.ifCond .eq 13, 3) := by decide +kernel
theorem dX10_actor_14 : decode cX10_actor 14 = .ok (.iload_n 2, 1) := by decide +kernel
theorem dX10_actor_15 : decode cX10_actor 15 = .ok (.ifCond .lt 9, 3) := by decide +kernel
theorem dX10_actor_18 : decode cX10_actor 18 = .ok (.iload_n 2, 1) := by decide +kernel
theorem dX10_actor_19 : decode cX10_actor 19 = .ok (.bipush 7, 2) := by decide +kernel
theorem dX10_actor_21 : decode cX10_actor 21 = .ok (.if_icmp .le 13, 3) := by decide +kernel
theorem dX10_actor_24 : decode cX10_actor 24 = .ok (.new 128, 3) := by decide +kernel
theorem dX10_actor_27 : decode cX10_actor 27 = .ok (.dup, 1) := by decide +kernel
theorem dX10_actor_28 : decode cX10_actor 28 = .ok (.ldc 156, 2) := by decide +kernel
theorem dX10_actor_30 : decode cX10_actor 30 = .ok (.invokespecial 132, 3) := by decide +kernel
theorem dX10_actor_33 : decode cX10_actor 33 = .ok (.athrow, 1) := by decide +kernel
theorem dX10_actor_34 : decode cX10_actor 34 = .ok (.aload_n 0, 1) := by decide +kernel
theorem dX10_actor_35 : decode cX10_actor 35 = .ok (.getfield 31, 3) := by decide +kernel
theorem dX10_actor_38 : decode cX10_actor 38 = .ok (.getfield 158, 3) := by decide +kernel
theorem dX10_actor_41 : decode cX10_actor 41 = .ok (.iload_n 1, 1) := by decide +kernel
theorem dX10_actor_42 : decode cX10_actor 42 = .ok (.aaload, 1) := by decide +kernel
theorem dX10_actor_43 : decode cX10_actor 43 = .ok (.astore_n 3, 1) := by decide +kernel
theorem dX10_actor_44 : decode cX10_actor 44 = .ok (.iload_n 2, 1) := by decide +kernel
theorem dX10_actor_45 : decode cX10_actor 45 = .ok (.bipush 7, 2) := by decide +kernel
theorem dX10_actor_47 : decode cX10_actor 47 = .ok (.if_icmp .ne 14, 3) := by decide +kernel
theorem dX10_actor_50 : decode cX10_actor 50 = .ok (.aload_n 0, 1) := by decide +kernel
theorem dX10_actor_51 : decode cX10_actor 51 = .ok (.getfield 50, 3) := by decide +kernel
theorem dX10_actor_54 : decode cX10_actor 54 = .ok (.aload_n 3, 1) := by decide +kernel
theorem dX10_actor_55 : decode cX10_actor 55 = .ok (.invokevirtual 161, 3) := by decide +kernel
theorem dX10_actor_58 : decode cX10_actor 58 = .ok (.goto 8, 3) := by decide +kernel
theorem dX10_actor_61 : decode cX10_actor 61 = .ok (.aload_n 3, 1) := by decide +kernel
theorem dX10_actor_62 : decode cX10_actor 62 = .ok (.iload_n 2, 1) := by decide +kernel
theorem dX10_actor_63 : decode cX10_actor 63 = .ok (.invokevirtual 165, 3) := by decide +kernel
theorem dX10_actor_66 : decode cX10_actor 66 = .ok (.ireturn, 1) := by decide +kernel
theorem dX10_object_0 : decode cX10_object 0 = .ok (.aload_n 0, 1) := by decide +kernel
theorem dX10_object_1 : decode cX10_object 1 = .ok (.getfield 16, 3) := by decide +kernel
theorem dX10_object_4 : decode cX10_object 4 = .ok (.getfield 168, 3) := by decide +kernel
theorem dX10_object_7 : decode cX10_object 7 = .ok (.iload_n 1, 1) := by decide +kernel
theorem dX10_object_8 : decode cX10_object 8 = .ok (.invokevirtual 151, 3) := by decide +kernel
theorem dX10_object_11 : decode cX10_object 11 = .ok (.ifCond .eq 12, 3) := by decide +kernel
theorem dX10_object_14 : decode cX10_object 14 = .ok (.iload_n 2, 1) := by decide +kernel
theorem dX10_object_15 : decode cX10_object 15 = .ok (.ifCond .lt 8, 3) := by decide +kernel
theorem dX10_object_18 : decode cX10_object 18 = .ok (.iload_n 2, 1) := by decide +kernel
theorem dX10_object_19 : decode cX10_object 19 = .ok (.iconst 5, 1) := by decide +kernel
theorem dX10_object_20 : decode cX10_object 20 = .ok (.if_icmp .le 13, 3) := by decide +kernel
theorem dX10_object_23 : decode cX10_object 23 = .ok (.new 128, 3) := by decide +kernel
theorem dX10_object_26 : decode cX10_object 26 = .ok (.dup, 1) := by decide +kernel
theorem dX10_object_27 : decode cX10_object 27 = .ok (.ldc 171, 2) := by decide +kernel
theorem dX10_object_29 : decode cX10_object 29 = .ok (.invokespecial 132, 3) := by decide +kernel
theorem dX10_object_32 : decode cX10_object 32 = .ok (.athrow, 1) := by decide +kernel
theorem dX10_object_33 : decode cX10_object 33 = .ok (.iload_n 2, 1) := by decide +kernel
theorem dX10_object_34 : decode cX10_object 34 = .ok (.tableswitch 55 3 5 #[26, 36, 46], 26) := by decide +kernel
theorem dX10_object_60 : decode cX10_object 60 = .ok (.aload_n 0, 1) := by decide +kernel
theorem dX10_object_61 : decode cX10_object 61 = .ok (.getfield 31, 3) := by decide +kernel
theorem dX10_object_64 : decode cX10_object 64 = .ok (.getfield 173, 3) := by decide +kernel
theorem dX10_object_67 : decode cX10_object 67 = .ok (.iload_n 1, 1) := by decide +kernel
theorem dX10_object_68 : decode cX10_object 68 = .ok (.iaload, 1) := by decide +kernel
theorem dX10_object_69 : decode cX10_object 69 = .ok (.ireturn, 1) := by decide +kernel
theorem dX10_object_70 : decode cX10_object 70 = .ok (.aload_n 0, 1) := by decide +kernel
theorem dX10_object_71 : decode cX10_object 71 = .ok (.getfield 31, 3) := by decide +kernel
theorem dX10_object_74 : decode cX10_object 74 = .ok (.getfield 176, 3) := by decide +kernel
theorem dX10_object_77 : decode cX10_object 77 = .ok (.iload_n 1, 1) := by decide +kernel
theorem dX10_object_78 : decode cX10_object 78 = .ok (.iaload, 1) := by decide +kernel
theorem dX10_object_79 : decode cX10_object 79 = .ok (.ireturn, 1) := by decide +kernel
theorem dX10_object_80 : decode cX10_object 80 = .ok (.aload_n 0, 1) := by decide +kernel
theorem dX10_object_81 : decode cX10_object 81 = .ok (.getfield 16, 3) := by decide +kernel
theorem dX10_object_84 : decode cX10_object 84 = .ok (.iload_n 1, 1) := by decide +kernel
theorem dX10_object_85 : decode cX10_object 85 = .ok (.invokevirtual 179, 3) := by decide +kernel
theorem dX10_object_88 : decode cX10_object 88 = .ok (.ireturn, 1) := by decide +kernel
theorem dX10_object_89 : decode cX10_object 89 = .ok (.aload_n 0, 1) := by decide +kernel
theorem dX10_object_90 : decode cX10_object 90 = .ok (.getfield 16, 3) := by decide +kernel
theorem dX10_object_93 : decode cX10_object 93 = .ok (.iload_n 1, 1) := by decide +kernel
theorem dX10_object_94 : decode cX10_object 94 = .ok (.iload_n 2, 1) := by decide +kernel
theorem dX10_object_95 : decode cX10_object 95 = .ok (.invokevirtual 182, 3) := by decide +kernel
theorem dX10_object_98 : decode cX10_object 98 = .ok (.ireturn, 1) := by decide +kernel
theorem dX10_verb_0 : decode cX10_verb 0 = .ok (.aload_n 0, 1) := by decide +kernel
theorem dX10_verb_1 : decode cX10_verb 1 = .ok (.getfield 16, 3) := by decide +kernel
theorem dX10_verb_4 : decode cX10_verb 4 = .ok (.iload_n 1, 1) := by decide +kernel
theorem dX10_verb_5 : decode cX10_verb 5 = .ok (.iload_n 2, 1) := by decide +kernel
theorem dX10_verb_6 : decode cX10_verb 6 = .ok (.invokevirtual 186, 3) := by decide +kernel
theorem dX10_verb_9 : decode cX10_verb 9 = .ok (.ireturn, 1) := by decide +kernel
theorem dX10_box_0 : decode cX10_box 0 = .ok (.aload_n 0, 1) := by decide +kernel
theorem dX10_box_1 : decode cX10_box 1 = .ok (.getfield 41, 3) := by decide +kernel
theorem dX10_box_4 : decode cX10_box 4 = .ok (.iload_n 1, 1) := by decide +kernel
theorem dX10_box_5 : decode cX10_box 5 = .ok (.iload_n 2, 1) := by decide +kernel
theorem dX10_box_6 : decode cX10_box 6 = .ok (.invokevirtual 189, 3) := by decide +kernel
theorem dX10_box_9 : decode cX10_box 9 = .ok (.ifCond .ne 5, 3) := by decide +kernel
theorem dX10_box_12 : decode cX10_box 12 = .ok (.iconst (-1), 1) := by decide +kernel
theorem dX10_box_13 : decode cX10_box 13 = .ok (.ireturn, 1) := by decide +kernel
theorem dX10_box_14 : decode cX10_box 14 = .ok (.iload_n 3, 1) := by decide +kernel
theorem dX10_box_15 : decode cX10_box 15 = .ok (.iconst 4, 1) := by decide +kernel
theorem dX10_box_16 : decode cX10_box 16 = .ok (.if_icmp .ne 21, 3) := by decide +kernel
theorem dX10_box_19 : decode cX10_box 19 = .ok (.aload_n 0, 1) := by decide +kernel
theorem dX10_box_20 : decode cX10_box 20 = .ok (.getfield 50, 3) := by decide +kernel
theorem dX10_box_23 : decode cX10_box 23 = .ok (.iload_n 1, 1) := by decide +kernel
theorem dX10_box_24 : decode cX10_box 24 = .ok (.iload_n 2, 1) := by decide +kernel
theorem dX10_box_25 : decode cX10_box 25 = .ok (.invokevirtual 193, 3) := by decide +kernel
theorem dX10_box_28 : decode cX10_box 28 = .ok (.ifCond .eq 7, 3) := by decide +kernel
theorem dX10_box_31 : decode cX10_box 31 = .ok (.iconst 0, 1) := by decide +kernel
theorem dX10_box_32 : decode cX10_box 32 = .ok (.goto 4, 3) := by decide +kernel
theorem dX10_box_35 : decode cX10_box 35 = .ok (.iconst 1, 1) := by decide +kernel
theorem dX10_box_36 : decode cX10_box 36 = .ok (.ireturn, 1) := by decide +kernel
theorem dX10_box_37 : decode cX10_box 37 = .ok (.aload_n 0, 1) := by decide +kernel
theorem dX10_box_38 : decode cX10_box 38 = .ok (.getfield 41, 3) := by decide +kernel
theorem dX10_box_41 : decode cX10_box 41 = .ok (.iload_n 1, 1) := by decide +kernel
theorem dX10_box_42 : decode cX10_box 42 = .ok (.iload_n 2, 1) := by decide +kernel
theorem dX10_box_43 : decode cX10_box 43 = .ok (.iload_n 3, 1) := by decide +kernel
theorem dX10_box_44 : decode cX10_box 44 = .ok (.invokevirtual 196, 3) := by decide +kernel
theorem dX10_box_47 : decode cX10_box 47 = .ok (.ireturn, 1) := by decide +kernel
theorem dX10_neighbours_0 : decode cX10_neighbours 0 = .ok (.aload_n 0, 1) := by decide +kernel
theorem dX10_neighbours_1 : decode cX10_neighbours 1 = .ok (.getfield 41, 3) := by decide +kernel
theorem dX10_neighbours_4 : decode cX10_neighbours 4 = .ok (.iload_n 1, 1) := by decide +kernel
theorem dX10_neighbours_5 : decode cX10_neighbours 5 = .ok (.iload_n 2, 1) := by decide +kernel
theorem dX10_neighbours_6 : decode cX10_neighbours 6 = .ok (.invokevirtual 189, 3) := by decide +kernel
theorem dX10_neighbours_9 : decode cX10_neighbours 9 = .ok (.ifCond .eq 15, 3) := by decide +kernel
theorem dX10_neighbours_12 : decode cX10_neighbours 12 = .ok (.aload_n 0, 1) := by decide +kernel
theorem dX10_neighbours_13 : decode cX10_neighbours 13 = .ok (.getfield 41, 3) := by decide +kernel
theorem dX10_neighbours_16 : decode cX10_neighbours 16 = .ok (.iload_n 1, 1) := by decide +kernel
theorem dX10_neighbours_17 : decode cX10_neighbours 17 = .ok (.iload_n 3, 1) := by decide +kernel
theorem dX10_neighbours_18 : decode cX10_neighbours 18 = .ok (.invokevirtual 189, 3) := by decide +kernel
theorem dX10_neighbours_21 : decode cX10_neighbours 21 = .ok (.ifCond .ne 5, 3) := by decide +kernel
theorem dX10_neighbours_24 : decode cX10_neighbours 24 = .ok (.iconst (-1), 1) := by decide +kernel
theorem dX10_neighbours_25 : decode cX10_neighbours 25 = .ok (.ireturn, 1) := by decide +kernel
theorem dX10_neighbours_26 : decode cX10_neighbours 26 = .ok (.aload_n 0, 1) := by decide +kernel
theorem dX10_neighbours_27 : decode cX10_neighbours 27 = .ok (.getfield 41, 3) := by decide +kernel
theorem dX10_neighbours_30 : decode cX10_neighbours 30 = .ok (.getfield 200, 3) := by decide +kernel
theorem dX10_neighbours_33 : decode cX10_neighbours 33 = .ok (.iload_n 1, 1) := by decide +kernel
theorem dX10_neighbours_34 : decode cX10_neighbours 34 = .ok (.bipush 16, 2) := by decide +kernel
theorem dX10_neighbours_36 : decode cX10_neighbours 36 = .ok (.imul, 1) := by decide +kernel
theorem dX10_neighbours_37 : decode cX10_neighbours 37 = .ok (.iload_n 2, 1) := by decide +kernel
theorem dX10_neighbours_38 : decode cX10_neighbours 38 = .ok (.iadd, 1) := by decide +kernel
theorem dX10_neighbours_39 : decode cX10_neighbours 39 = .ok (.iaload, 1) := by decide +kernel
theorem dX10_neighbours_40 : decode cX10_neighbours 40 = .ok (.iload_n 3, 1) := by decide +kernel
theorem dX10_neighbours_41 : decode cX10_neighbours 41 = .ok (.ishr, 1) := by decide +kernel
theorem dX10_neighbours_42 : decode cX10_neighbours 42 = .ok (.iconst 1, 1) := by decide +kernel
theorem dX10_neighbours_43 : decode cX10_neighbours 43 = .ok (.iand, 1) := by decide +kernel
theorem dX10_neighbours_44 : decode cX10_neighbours 44 = .ok (.ireturn, 1) := by decide +kernel
theorem dX10_way_0 : decode cX10_way 0 = .ok (.aload_n 0, 1) := by decide +kernel
theorem dX10_way_1 : decode cX10_way 1 = .ok (.getfield 50, 3) := by decide +kernel
theorem dX10_way_4 : decode cX10_way 4 = .ok (.iload_n 1, 1) := by decide +kernel
theorem dX10_way_5 : decode cX10_way 5 = .ok (.iload_n 2, 1) := by decide +kernel
theorem dX10_way_6 : decode cX10_way 6 = .ok (.invokevirtual 193, 3) := by decide +kernel
theorem dX10_way_9 : decode cX10_way 9 = .ok (.ifCond .eq 15, 3) := by decide +kernel
theorem dX10_way_12 : decode cX10_way 12 = .ok (.aload_n 0, 1) := by decide +kernel
theorem dX10_way_13 : decode cX10_way 13 = .ok (.getfield 50, 3) := by decide +kernel
theorem dX10_way_16 : decode cX10_way 16 = .ok (.iload_n 1, 1) := by decide +kernel
theorem dX10_way_17 : decode cX10_way 17 = .ok (.iload_n 3, 1) := by decide +kernel
theorem dX10_way_18 : decode cX10_way 18 = .ok (.invokevirtual 193, 3) := by decide +kernel
theorem dX10_way_21 : decode cX10_way 21 = .ok (.ifCond .ne 5, 3) := by decide +kernel
theorem dX10_way_24 : decode cX10_way 24 = .ok (.iconst (-1), 1) := by decide +kernel
theorem dX10_way_25 : decode cX10_way 25 = .ok (.ireturn, 1) := by decide +kernel
theorem dX10_way_26 : decode cX10_way 26 = .ok (.aload_n 0, 1) := by decide +kernel
theorem dX10_way_27 : decode cX10_way 27 = .ok (.getfield 50, 3) := by decide +kernel
theorem dX10_way_30 : decode cX10_way 30 = .ok (.iload_n 1, 1) := by decide +kernel
theorem dX10_way_31 : decode cX10_way 31 = .ok (.iload_n 2, 1) := by decide +kernel
theorem dX10_way_32 : decode cX10_way 32 = .ok (.iload_n 3, 1) := by decide +kernel
theorem dX10_way_33 : decode cX10_way 33 = .ok (.invokevirtual 203, 3) := by decide +kernel
theorem dX10_way_36 : decode cX10_way 36 = .ok (.ireturn, 1) := by decide +kernel
theorem dX10_goal_0 : decode cX10_goal 0 = .ok (.aload_n 0, 1) := by decide +kernel
theorem dX10_goal_1 : decode cX10_goal 1 = .ok (.getfield 16, 3) := by decide +kernel
theorem dX10_goal_4 : decode cX10_goal 4 = .ok (.getfield 147, 3) := by decide +kernel
theorem dX10_goal_7 : decode cX10_goal 7 = .ok (.iload_n 1, 1) := by decide +kernel
theorem dX10_goal_8 : decode cX10_goal 8 = .ok (.invokevirtual 151, 3) := by decide +kernel
theorem dX10_goal_11 : decode cX10_goal 11 = .ok (.ifCond .eq 17, 3) := by decide +kernel
theorem dX10_goal_14 : decode cX10_goal 14 = .ok (.iload_n 2, 1) := by decide +kernel
theorem dX10_goal_15 : decode cX10_goal 15 = .ok (.invokestatic 206, 3) := by decide +kernel
theorem dX10_goal_18 : decode cX10_goal 18 = .ok (.ifCond .eq 10, 3) := by decide +kernel
theorem dX10_goal_21 : decode cX10_goal 21 = .ok (.iload_n 3, 1) := by decide +kernel
theorem dX10_goal_22 : decode cX10_goal 22 = .ok (.invokestatic 206, 3) := by decide +kernel
theorem dX10_goal_25 : decode cX10_goal 25 = .ok (.ifCond .ne 5, 3) := by decide +kernel
theorem dX10_goal_28 : decode cX10_goal 28 = .ok (.iconst (-1), 1) := by decide +kernel
theorem dX10_goal_29 : decode cX10_goal 29 = .ok (.ireturn, 1) := by decide +kernel
theorem dX10_goal_30 : decode cX10_goal 30 = .ok (.aload_n 0, 1) := by decide +kernel
theorem dX10_goal_31 : decode cX10_goal 31 = .ok (.getfield 50, 3) := by decide +kernel
theorem dX10_goal_34 : decode cX10_goal 34 = .ok (.aload_n 0, 1) := by decide +kernel
theorem dX10_goal_35 : decode cX10_goal 35 = .ok (.getfield 31, 3) := by decide +kernel
theorem dX10_goal_38 : decode cX10_goal 38 = .ok (.getfield 158, 3) := by decide +kernel
theorem dX10_goal_41 : decode cX10_goal 41 = .ok (.iload_n 1, 1) := by decide +kernel
theorem dX10_goal_42 : decode cX10_goal 42 = .ok (.aaload, 1) := by decide +kernel
theorem dX10_goal_43 : decode cX10_goal 43 = .ok (.iload_n 2, 1) := by decide +kernel
theorem dX10_goal_44 : decode cX10_goal 44 = .ok (.iload_n 3, 1) := by decide +kernel
theorem dX10_goal_45 : decode cX10_goal 45 = .ok (.invokevirtual 209, 3) := by decide +kernel
theorem dX10_goal_48 : decode cX10_goal 48 = .ok (.ireturn, 1) := by decide +kernel
theorem dX10_note_0 : decode cX10_note 0 = .ok (.iload_n 1, 1) := by decide +kernel
theorem dX10_note_1 : decode cX10_note 1 = .ok (.ifCond .lt 20, 3) := by decide +kernel
theorem dX10_note_4 : decode cX10_note 4 = .ok (.iload_n 1, 1) := by decide +kernel
theorem dX10_note_5 : decode cX10_note 5 = .ok (.bipush 64, 2) := by decide +kernel
theorem dX10_note_7 : decode cX10_note 7 = .ok (.if_icmp .ge 14, 3) := by decide +kernel
theorem dX10_note_10 : decode cX10_note 10 = .ok (.iload_n 1, 1) := by decide +kernel
theorem dX10_note_11 : decode cX10_note 11 = .ok (.aload_n 0, 1) := by decide +kernel
theorem dX10_note_12 : decode cX10_note 12 = .ok (.getfield 31, 3) := by decide +kernel
theorem dX10_note_15 : decode cX10_note 15 = .ok (.getfield 213, 3) := by decide +kernel
theorem dX10_note_18 : decode cX10_note 18 = .ok (.if_icmp .lt 13, 3) := by decide +kernel
theorem dX10_note_21 : decode cX10_note 21 = .ok (.new 128, 3) := by decide +kernel
theorem dX10_note_24 : decode cX10_note 24 = .ok (.dup, 1) := by decide +kernel
theorem dX10_note_25 : decode cX10_note 25 = .ok (.ldc 216, 2) := by decide +kernel
theorem dX10_note_27 : decode cX10_note 27 = .ok (.invokespecial 132, 3) := by decide +kernel
theorem dX10_note_30 : decode cX10_note 30 = .ok (.athrow, 1) := by decide +kernel
theorem dX10_note_31 : decode cX10_note 31 = .ok (.aload_n 0, 1) := by decide +kernel
theorem dX10_note_32 : decode cX10_note 32 = .ok (.getfield 31, 3) := by decide +kernel
theorem dX10_note_35 : decode cX10_note 35 = .ok (.getfield 218, 3) := by decide +kernel
theorem dX10_note_38 : decode cX10_note 38 = .ok (.aload_n 0, 1) := by decide +kernel
theorem dX10_note_39 : decode cX10_note 39 = .ok (.getfield 31, 3) := by decide +kernel
theorem dX10_note_42 : decode cX10_note 42 = .ok (.getfield 213, 3) := by decide +kernel
theorem dX10_note_45 : decode cX10_note 45 = .ok (.iconst 1, 1) := by decide +kernel
theorem dX10_note_46 : decode cX10_note 46 = .ok (.isub, 1) := by decide +kernel
theorem dX10_note_47 : decode cX10_note 47 = .ok (.iload_n 1, 1) := by decide +kernel
theorem dX10_note_48 : decode cX10_note 48 = .ok (.isub, 1) := by decide +kernel
theorem dX10_note_49 : decode cX10_note 49 = .ok (.bipush 64, 2) := by decide +kernel
theorem dX10_note_51 : decode cX10_note 51 = .ok (.irem, 1) := by decide +kernel
theorem dX10_note_52 : decode cX10_note 52 = .ok (.iaload, 1) := by decide +kernel
theorem dX10_note_53 : decode cX10_note 53 = .ok (.ireturn, 1) := by decide +kernel
theorem dX10_sentence_0 : decode cX10_sentence 0 = .ok (.iload_n 1, 1) := by decide +kernel
theorem dX10_sentence_1 : decode cX10_sentence 1 = .ok (.ifCond .lt 23, 3) := by decide +kernel
theorem dX10_sentence_4 : decode cX10_sentence 4 = .ok (.iload_n 1, 1) := by decide +kernel
theorem dX10_sentence_5 : decode cX10_sentence 5 = .ok (.aload_n 0, 1) := by decide +kernel
theorem dX10_sentence_6 : decode cX10_sentence 6 = .ok (.getfield 31, 3) := by decide +kernel
theorem dX10_sentence_9 : decode cX10_sentence 9 = .ok (.getfield 122, 3) := by decide +kernel
theorem dX10_sentence_12 : decode cX10_sentence 12 = .ok (.if_icmp .ge 12, 3) := by decide +kernel
theorem dX10_sentence_15 : decode cX10_sentence 15 = .ok (.iload_n 2, 1) := by decide +kernel
theorem dX10_sentence_16 : decode cX10_sentence 16 = .ok (.ifCond .lt 8, 3) := by decide +kernel
theorem dX10_sentence_19 : decode cX10_sentence 19 = .ok (.iload_n 2, 1) := by decide +kernel
theorem dX10_sentence_20 : decode cX10_sentence 20 = .ok (.iconst 3, 1) := by decide +kernel
theorem dX10_sentence_21 : decode cX10_sentence 21 = .ok (.if_icmp .lt 13, 3) := by decide +kernel
theorem dX10_sentence_24 : decode cX10_sentence 24 = .ok (.new 128, 3) := by decide +kernel
theorem dX10_sentence_27 : decode cX10_sentence 27 = .ok (.dup, 1) := by decide +kernel
theorem dX10_sentence_28 : decode cX10_sentence 28 = .ok (.ldc 221, 2) := by decide +kernel
theorem dX10_sentence_30 : decode cX10_sentence 30 = .ok (.invokespecial 132, 3) := by decide +kernel
theorem dX10_sentence_33 : decode cX10_sentence 33 = .ok (.athrow, 1) := by decide +kernel
theorem dX10_sentence_34 : decode cX10_sentence 34 = .ok (.aload_n 0, 1) := by decide +kernel
theorem dX10_sentence_35 : decode cX10_sentence 35 = .ok (.getfield 31, 3) := by decide +kernel
theorem dX10_sentence_38 : decode cX10_sentence 38 = .ok (.getfield 223, 3) := by decide +kernel
theorem dX10_sentence_41 : decode cX10_sentence 41 = .ok (.iload_n 1, 1) := by decide +kernel
theorem dX10_sentence_42 : decode cX10_sentence 42 = .ok (.iconst 3, 1) := by decide +kernel
theorem dX10_sentence_43 : decode cX10_sentence 43 = .ok (.imul, 1) := by decide +kernel
theorem dX10_sentence_44 : decode cX10_sentence 44 = .ok (.iload_n 2, 1) := by decide +kernel
theorem dX10_sentence_45 : decode cX10_sentence 45 = .ok (.iadd, 1) := by decide +kernel
theorem dX10_sentence_46 : decode cX10_sentence 46 = .ok (.iaload, 1) := by decide +kernel
theorem dX10_sentence_47 : decode cX10_sentence 47 = .ok (.ireturn, 1) := by decide +kernel
theorem dX10_count_0 : decode cX10_count 0 = .ok (.iload_n 1, 1) := by decide +kernel
theorem dX10_count_1 : decode cX10_count 1 = .ok (.tableswitch 174 0 11 #[63, 71, 79, 87, 95, 103, 111, 119, 130, 141, 152, 163], 63) := by decide +kernel
theorem dX10_count_64 : decode cX10_count 64 = .ok (.aload_n 0, 1) := by decide +kernel
theorem dX10_count_65 : decode cX10_count 65 = .ok (.getfield 31, 3) := by decide +kernel
theorem dX10_count_68 : decode cX10_count 68 = .ok (.getfield 226, 3) := by decide +kernel
theorem dX10_count_71 : decode cX10_count 71 = .ok (.ireturn, 1) := by decide +kernel
theorem dX10_count_72 : decode cX10_count 72 = .ok (.aload_n 0, 1) := by decide +kernel
theorem dX10_count_73 : decode cX10_count 73 = .ok (.getfield 31, 3) := by decide +kernel
theorem dX10_count_76 : decode cX10_count 76 = .ok (.invokevirtual 229, 3) := by decide +kernel
theorem dX10_count_79 : decode cX10_count 79 = .ok (.ireturn, 1) := by decide +kernel
theorem dX10_count_80 : decode cX10_count 80 = .ok (.aload_n 0, 1) := by decide +kernel
theorem dX10_count_81 : decode cX10_count 81 = .ok (.getfield 31, 3) := by decide +kernel
theorem dX10_count_84 : decode cX10_count 84 = .ok (.getfield 122, 3) := by decide +kernel
theorem dX10_count_87 : decode cX10_count 87 = .ok (.ireturn, 1) := by decide +kernel
theorem dX10_count_88 : decode cX10_count 88 = .ok (.aload_n 0, 1) := by decide +kernel
theorem dX10_count_89 : decode cX10_count 89 = .ok (.getfield 31, 3) := by decide +kernel
theorem dX10_count_92 : decode cX10_count 92 = .ok (.getfield 213, 3) := by decide +kernel
theorem dX10_count_95 : decode cX10_count 95 = .ok (.ireturn, 1) := by decide +kernel
theorem dX10_count_96 : decode cX10_count 96 = .ok (.aload_n 0, 1) := by decide +kernel
theorem dX10_count_97 : decode cX10_count 97 = .ok (.getfield 31, 3) := by decide +kernel
theorem dX10_count_100 : decode cX10_count 100 = .ok (.getfield 232, 3) := by decide +kernel
theorem dX10_count_103 : decode cX10_count 103 = .ok (.ireturn, 1) := by decide +kernel
theorem dX10_count_104 : decode cX10_count 104 = .ok (.aload_n 0, 1) := by decide +kernel
theorem dX10_count_105 : decode cX10_count 105 = .ok (.getfield 31, 3) := by decide +kernel
theorem dX10_count_108 : decode cX10_count 108 = .ok (.getfield 235, 3) := by decide +kernel
theorem dX10_count_111 : decode cX10_count 111 = .ok (.ireturn, 1) := by decide +kernel
theorem dX10_count_112 : decode cX10_count 112 = .ok (.aload_n 0, 1) := by decide +kernel
theorem dX10_count_113 : decode cX10_count 113 = .ok (.getfield 31, 3) := by decide +kernel
theorem dX10_count_116 : decode cX10_count 116 = .ok (.getfield 238, 3) := by decide +kernel
theorem dX10_count_119 : decode cX10_count 119 = .ok (.ireturn, 1) := by decide +kernel
theorem dX10_count_120 : decode cX10_count 120 = .ok (.aload_n 0, 1) := by decide +kernel
theorem dX10_count_121 : decode cX10_count 121 = .ok (.getfield 16, 3) := by decide +kernel
theorem dX10_count_124 : decode cX10_count 124 = .ok (.getfield 241, 3) := by decide +kernel
theorem dX10_count_127 : decode cX10_count 127 = .ok (.getfield 244, 3) := by decide +kernel
theorem dX10_count_130 : decode cX10_count 130 = .ok (.ireturn, 1) := by decide +kernel
theorem dX10_count_131 : decode cX10_count 131 = .ok (.aload_n 0, 1) := by decide +kernel
theorem dX10_count_132 : decode cX10_count 132 = .ok (.getfield 16, 3) := by decide +kernel
theorem dX10_count_135 : decode cX10_count 135 = .ok (.getfield 245, 3) := by decide +kernel
theorem dX10_count_138 : decode cX10_count 138 = .ok (.getfield 244, 3) := by decide +kernel
theorem dX10_count_141 : decode cX10_count 141 = .ok (.ireturn, 1) := by decide +kernel
theorem dX10_count_142 : decode cX10_count 142 = .ok (.aload_n 0, 1) := by decide +kernel
theorem dX10_count_143 : decode cX10_count 143 = .ok (.getfield 16, 3) := by decide +kernel
theorem dX10_count_146 : decode cX10_count 146 = .ok (.getfield 168, 3) := by decide +kernel
theorem dX10_count_149 : decode cX10_count 149 = .ok (.getfield 244, 3) := by decide +kernel
theorem dX10_count_152 : decode cX10_count 152 = .ok (.ireturn, 1) := by decide +kernel
theorem dX10_count_153 : decode cX10_count 153 = .ok (.aload_n 0, 1) := by decide +kernel
theorem dX10_count_154 : decode cX10_count 154 = .ok (.getfield 16, 3) := by decide +kernel
theorem dX10_count_157 : decode cX10_count 157 = .ok (.getfield 147, 3) := by decide +kernel
theorem dX10_count_160 : decode cX10_count 160 = .ok (.getfield 244, 3) := by decide +kernel
theorem dX10_count_163 : decode cX10_count 163 = .ok (.ireturn, 1) := by decide +kernel
theorem dX10_count_164 : decode cX10_count 164 = .ok (.aload_n 0, 1) := by decide +kernel
theorem dX10_count_165 : decode cX10_count 165 = .ok (.getfield 10, 3) := by decide +kernel
theorem dX10_count_168 : decode cX10_count 168 = .ok (.getfield 63, 3) := by decide +kernel
theorem dX10_count_171 : decode cX10_count 171 = .ok (.getfield 67, 3) := by decide +kernel
theorem dX10_count_174 : decode cX10_count 174 = .ok (.ireturn, 1) := by decide +kernel
theorem dX10_count_175 : decode cX10_count 175 = .ok (.iconst (-1), 1) := by decide +kernel
theorem dX10_count_176 : decode cX10_count 176 = .ok (.ireturn, 1) := by decide +kernel
theorem dX10_keep_0 : decode cX10_keep 0 = .ok (.aload_n 0, 1) := by decide +kernel
theorem dX10_keep_1 : decode cX10_keep 1 = .ok (.getfield 35, 3) := by decide +kernel
theorem dX10_keep_4 : decode cX10_keep 4 = .ok (.aload_n 0, 1) := by decide +kernel
theorem dX10_keep_5 : decode cX10_keep 5 = .ok (.getfield 31, 3) := by decide +kernel
theorem dX10_keep_8 : decode cX10_keep 8 = .ok (.invokevirtual 248, 3) := by decide +kernel
theorem dX10_keep_11 : decode cX10_keep 11 = .ok (.aload_n 0, 1) := by decide +kernel
theorem dX10_keep_12 : decode cX10_keep 12 = .ok (.iconst 1, 1) := by decide +kernel
theorem dX10_keep_13 : decode cX10_keep 13 = .ok (.putfield 101, 3) := by decide +kernel
theorem dX10_keep_16 : decode cX10_keep 16 = .ok (.iconst 1, 1) := by decide +kernel
theorem dX10_keep_17 : decode cX10_keep 17 = .ok (.ireturn, 1) := by decide +kernel
theorem dX10_back_0 : decode cX10_back 0 = .ok (.aload_n 0, 1) := by decide +kernel
theorem dX10_back_1 : decode cX10_back 1 = .ok (.getfield 101, 3) := by decide +kernel
theorem dX10_back_4 : decode cX10_back 4 = .ok (.ifCond .eq 14, 3) := by decide +kernel
theorem dX10_back_7 : decode cX10_back 7 = .ok (.aload_n 0, 1) := by decide +kernel
theorem dX10_back_8 : decode cX10_back 8 = .ok (.getfield 31, 3) := by decide +kernel
theorem dX10_back_11 : decode cX10_back 11 = .ok (.aload_n 0, 1) := by decide +kernel
theorem dX10_back_12 : decode cX10_back 12 = .ok (.getfield 35, 3) := by decide +kernel
theorem dX10_back_15 : decode cX10_back 15 = .ok (.invokevirtual 248, 3) := by decide +kernel
theorem dX10_back_18 : decode cX10_back 18 = .ok (.aload_n 0, 1) := by decide +kernel
theorem dX10_back_19 : decode cX10_back 19 = .ok (.getfield 101, 3) := by decide +kernel
theorem dX10_back_22 : decode cX10_back 22 = .ok (.ireturn, 1) := by decide +kernel
theorem dX10_isByte_0 : decode cX10_isByte 0 = .ok (.iload_n 0, 1) := by decide +kernel
theorem dX10_isByte_1 : decode cX10_isByte 1 = .ok (.ifCond .lt 14, 3) := by decide +kernel
theorem dX10_isByte_4 : decode cX10_isByte 4 = .ok (.iload_n 0, 1) := by decide +kernel
theorem dX10_isByte_5 : decode cX10_isByte 5 = .ok (.sipush 255, 3) := by decide +kernel
theorem dX10_isByte_8 : decode cX10_isByte 8 = .ok (.if_icmp .gt 7, 3) := by decide +kernel
theorem dX10_isByte_11 : decode cX10_isByte 11 = .ok (.iconst 1, 1) := by decide +kernel
theorem dX10_isByte_12 : decode cX10_isByte 12 = .ok (.goto 4, 3) := by decide +kernel
theorem dX10_isByte_15 : decode cX10_isByte 15 = .ok (.iconst 0, 1) := by decide +kernel
theorem dX10_isByte_16 : decode cX10_isByte 16 = .ok (.ireturn, 1) := by decide +kernel
end
section
theorem dX11_thrown_0 : decode cX11_thrown 0 = .ok (.aload_n 0, 1) := by decide +kernel
theorem dX11_thrown_1 : decode cX11_thrown 1 = .ok (.getfield 3, 3) := by decide +kernel
theorem dX11_thrown_4 : decode cX11_thrown 4 = .ok (.ireturn, 1) := by decide +kernel
theorem dX11_in_0 : decode cX11_in 0 = .ok (.lload_n 0, 1) := by decide +kernel
theorem dX11_in_1 : decode cX11_in 1 = .ok (.lload_n 2, 1) := by decide +kernel
theorem dX11_in_2 : decode cX11_in 2 = .ok (.lcmp, 1) := by decide +kernel
theorem dX11_in_3 : decode cX11_in 3 = .ok (.ifCond .lt 14, 3) := by decide +kernel
theorem dX11_in_6 : decode cX11_in 6 = .ok (.lload_n 0, 1) := by decide +kernel
theorem dX11_in_7 : decode cX11_in 7 = .ok (.lload 4, 2) := by decide +kernel
theorem dX11_in_9 : decode cX11_in 9 = .ok (.lcmp, 1) := by decide +kernel
theorem dX11_in_10 : decode cX11_in 10 = .ok (.ifCond .gt 7, 3) := by decide +kernel
theorem dX11_in_13 : decode cX11_in 13 = .ok (.iconst 1, 1) := by decide +kernel
theorem dX11_in_14 : decode cX11_in 14 = .ok (.goto 4, 3) := by decide +kernel
theorem dX11_in_17 : decode cX11_in 17 = .ok (.iconst 0, 1) := by decide +kernel
theorem dX11_in_18 : decode cX11_in 18 = .ok (.ireturn, 1) := by decide +kernel
theorem dX11_refuse_0 : decode cX11_refuse 0 = .ok (.aload_n 0, 1) := by decide +kernel
theorem dX11_refuse_1 : decode cX11_refuse 1 = .ok (.iconst 1, 1) := by decide +kernel
theorem dX11_refuse_2 : decode cX11_refuse 2 = .ok (.putfield 3, 3) := by decide +kernel
theorem dX11_refuse_5 : decode cX11_refuse 5 = .ok (.iconst 0, 1) := by decide +kernel
theorem dX11_refuse_6 : decode cX11_refuse 6 = .ok (.ireturn, 1) := by decide +kernel
theorem dX11_init_0 : decode cX11_init 0 = .ok (.aload_n 0, 1) := by decide +kernel
theorem dX11_init_1 : decode cX11_init 1 = .ok (.invokespecial 7, 3) := by decide +kernel
theorem dX11_init_4 : decode cX11_init 4 = .ok (.aload_n 0, 1) := by decide +kernel
theorem dX11_init_5 : decode cX11_init 5 = .ok (.sipush 6000, 3) := by decide +kernel
theorem dX11_init_8 : decode cX11_init 8 = .ok (.newarray .int, 2) := by decide +kernel
theorem dX11_init_10 : decode cX11_init 10 = .ok (.putfield 13, 3) := by decide +kernel
theorem dX11_init_13 : decode cX11_init 13 = .ok (.aload_n 0, 1) := by decide +kernel
theorem dX11_init_14 : decode cX11_init 14 = .ok (.sipush 6000, 3) := by decide +kernel
theorem dX11_init_17 : decode cX11_init 17 = .ok (.newarray .int, 2) := by decide +kernel
theorem dX11_init_19 : decode cX11_init 19 = .ok (.putfield 17, 3) := by decide +kernel
theorem dX11_init_22 : decode cX11_init 22 = .ok (.aload_n 0, 1) := by decide +kernel
theorem dX11_init_23 : decode cX11_init 23 = .ok (.bipush 21, 2) := by decide +kernel
theorem dX11_init_25 : decode cX11_init 25 = .ok (.newarray .boolean, 2) := by decide +kernel
theorem dX11_init_27 : decode cX11_init 27 = .ok (.putfield 20, 3) := by decide +kernel
theorem dX11_init_30 : decode cX11_init 30 = .ok (.aload_n 0, 1) := by decide +kernel
theorem dX11_init_31 : decode cX11_init 31 = .ok (.bipush 21, 2) := by decide +kernel
theorem dX11_init_33 : decode cX11_init 33 = .ok (.newarray .int, 2) := by decide +kernel
theorem dX11_init_35 : decode cX11_init 35 = .ok (.putfield 24, 3) := by decide +kernel
theorem dX11_init_38 : decode cX11_init 38 = .ok (.aload_n 0, 1) := by decide +kernel
theorem dX11_init_39 : decode cX11_init 39 = .ok (.sipush 1344, 3) := by decide +kernel
theorem dX11_init_42 : decode cX11_init 42 = .ok (.newarray .int, 2) := by decide +kernel
theorem dX11_init_44 : decode cX11_init 44 = .ok (.putfield 27, 3) := by decide +kernel
theorem dX11_init_47 : decode cX11_init 47 = .ok (.aload_n 0, 1) := by decide +kernel
theorem dX11_init_48 : decode cX11_init 48 = .ok (.bipush 61, 2) := by decide +kernel
theorem dX11_init_50 : decode cX11_init 50 = .ok (.newarray .int, 2) := by decide +kernel
theorem dX11_init_52 : decode cX11_init 52 = .ok (.putfield 30, 3) := by decide +kernel
theorem dX11_init_55 : decode cX11_init 55 = .ok (.aload_n 0, 1) := by decide +kernel
theorem dX11_init_56 : decode cX11_init 56 = .ok (.bipush 61, 2) := by decide +kernel
theorem dX11_init_58 : decode cX11_init 58 = .ok (.newarray .int, 2) := by decide +kernel
theorem dX11_init_60 : decode cX11_init 60 = .ok (.putfield 33, 3) := by decide +kernel
theorem dX11_init_63 : decode cX11_init 63 = .ok (.aload_n 0, 1) := by decide +kernel
theorem dX11_init_64 : decode cX11_init 64 = .ok (.bipush 61, 2) := by decide +kernel
theorem dX11_init_66 : decode cX11_init 66 = .ok (.newarray .boolean, 2) := by decide +kernel
theorem dX11_init_68 : decode cX11_init 68 = .ok (.putfield 36, 3) := by decide +kernel
theorem dX11_init_71 : decode cX11_init 71 = .ok (.aload_n 0, 1) := by decide +kernel
theorem dX11_init_72 : decode cX11_init 72 = .ok (.sipush 183, 3) := by decide +kernel
theorem dX11_init_75 : decode cX11_init 75 = .ok (.newarray .int, 2) := by decide +kernel
theorem dX11_init_77 : decode cX11_init 77 = .ok (.putfield 39, 3) := by decide +kernel
theorem dX11_init_80 : decode cX11_init 80 = .ok (.aload_n 0, 1) := by decide +kernel
theorem dX11_init_81 : decode cX11_init 81 = .ok (.bipush 61, 2) := by decide +kernel
theorem dX11_init_83 : decode cX11_init 83 = .ok (.newarray .int, 2) := by decide +kernel
theorem dX11_init_85 : decode cX11_init 85 = .ok (.putfield 42, 3) := by decide +kernel
theorem dX11_init_88 : decode cX11_init 88 = .ok (.aload_n 0, 1) := by decide +kernel
theorem dX11_init_89 : decode cX11_init 89 = .ok (.bipush 61, 2) := by decide +kernel
theorem dX11_init_91 : decode cX11_init 91 = .ok (.newarray .int, 2) := by decide +kernel
theorem dX11_init_93 : decode cX11_init 93 = .ok (.putfield 45, 3) := by decide +kernel
theorem dX11_init_96 : decode cX11_init 96 = .ok (.aload_n 0, 1) := by decide +kernel
theorem dX11_init_97 : decode cX11_init 97 = .ok (.bipush 13, 2) := by decide +kernel
theorem dX11_init_99 : decode cX11_init 99 = .ok (.newarray .boolean, 2) := by decide +kernel
theorem dX11_init_101 : decode cX11_init 101 = .ok (.putfield 48, 3) := by decide +kernel
theorem dX11_init_104 : decode cX11_init 104 = .ok (.aload_n 0, 1) := by decide +kernel
theorem dX11_init_105 : decode cX11_init 105 = .ok (.sipush 256, 3) := by decide +kernel
theorem dX11_init_108 : decode cX11_init 108 = .ok (.newarray .boolean, 2) := by decide +kernel
theorem dX11_init_110 : decode cX11_init 110 = .ok (.putfield 51, 3) := by decide +kernel
theorem dX11_init_113 : decode cX11_init 113 = .ok (.aload_n 0, 1) := by decide +kernel
theorem dX11_init_114 : decode cX11_init 114 = .ok (.sipush 256, 3) := by decide +kernel
theorem dX11_init_117 : decode cX11_init 117 = .ok (.newarray .boolean, 2) := by decide +kernel
theorem dX11_init_119 : decode cX11_init 119 = .ok (.putfield 54, 3) := by decide +kernel
theorem dX11_init_122 : decode cX11_init 122 = .ok (.aload_n 0, 1) := by decide +kernel
theorem dX11_init_123 : decode cX11_init 123 = .ok (.sipush 781, 3) := by decide +kernel
theorem dX11_init_126 : decode cX11_init 126 = .ok (.newarray .int, 2) := by decide +kernel
theorem dX11_init_128 : decode cX11_init 128 = .ok (.putfield 57, 3) := by decide +kernel
theorem dX11_init_131 : decode cX11_init 131 = .ok (.aload_n 0, 1) := by decide +kernel
theorem dX11_init_132 : decode cX11_init 132 = .ok (.sipush 781, 3) := by decide +kernel
theorem dX11_init_135 : decode cX11_init 135 = .ok (.newarray .int, 2) := by decide +kernel
theorem dX11_init_137 : decode cX11_init 137 = .ok (.putfield 60, 3) := by decide +kernel
theorem dX11_init_140 : decode cX11_init 140 = .ok (.aload_n 0, 1) := by decide +kernel
theorem dX11_init_141 : decode cX11_init 141 = .ok (.bipush 16, 2) := by decide +kernel
theorem dX11_init_143 : decode cX11_init 143 = .ok (.newarray .int, 2) := by decide +kernel
theorem dX11_init_145 : decode cX11_init 145 = .ok (.putfield 63, 3) := by decide +kernel
theorem dX11_init_148 : decode cX11_init 148 = .ok (.aload_n 0, 1) := by decide +kernel
theorem dX11_init_149 : decode cX11_init 149 = .ok (.iconst 4, 1) := by decide +kernel
theorem dX11_init_150 : decode cX11_init 150 = .ok (.newarray .int, 2) := by decide +kernel
theorem dX11_init_152 : decode cX11_init 152 = .ok (.putfield 66, 3) := by decide +kernel
theorem dX11_init_155 : decode cX11_init 155 = .ok (.aload_n 0, 1) := by decide +kernel
theorem dX11_init_156 : decode cX11_init 156 = .ok (.getfield 57, 3) := by decide +kernel
theorem dX11_init_159 : decode cX11_init 159 = .ok (.iconst 1, 1) := by decide +kernel
theorem dX11_init_160 : decode cX11_init 160 = .ok (.iconst 1, 1) := by decide +kernel
theorem dX11_init_161 : decode cX11_init 161 = .ok (.iastore, 1) := by decide +kernel
theorem dX11_init_162 : decode cX11_init 162 = .ok (.return_, 1) := by decide +kernel
theorem dX11_feed_0 : decode cX11_feed 0 = .ok (.aload_n 0, 1) := by decide +kernel
theorem dX11_feed_1 : decode cX11_feed 1 = .ok (.iconst 0, 1) := by decide +kernel
theorem dX11_feed_2 : decode cX11_feed 2 = .ok (.putfield 3, 3) := by decide +kernel
theorem dX11_feed_5 : decode cX11_feed 5 = .ok (.aload_n 0, 1) := by decide +kernel
theorem dX11_feed_6 : decode cX11_feed 6 = .ok (.getfield 69, 3) := by decide +kernel
theorem dX11_feed_9 : decode cX11_feed 9 = .ok (.sipush 5980, 3) := by decide +kernel
theorem dX11_feed_12 : decode cX11_feed 12 = .ok (.if_icmp .le 5, 3) := by decide +kernel
theorem dX11_feed_15 : decode cX11_feed 15 = .ok (.iconst (-1), 1) := by decide +kernel
theorem dX11_feed_16 : decode cX11_feed 16 = .ok (.ireturn, 1) := by decide +kernel
theorem dX11_feed_17 : decode cX11_feed 17 = .ok (.iconst 0, 1) := by decide +kernel
theorem dX11_feed_18 : decode cX11_feed 18 = .ok (.istore 6, 2) := by decide +kernel
theorem dX11_feed_20 : decode cX11_feed 20 = .ok (.iload 6, 2) := by decide +kernel
theorem dX11_feed_22 : decode cX11_feed 22 = .ok (.bipush 20, 2) := by decide +kernel
theorem dX11_feed_24 : decode cX11_feed 24 = .ok (.if_icmp .ge 86, 3) := by decide +kernel
theorem dX11_feed_27 : decode cX11_feed 27 = .ok (.iload 6, 2) := by decide +kernel
theorem dX11_feed_29 : decode cX11_feed 29 = .ok (.iconst 4, 1) := by decide +kernel
theorem dX11_feed_30 : decode cX11_feed 30 = .ok (.if_icmp .ge 7, 3) := by decide +kernel
theorem dX11_feed_33 : decode cX11_feed 33 = .ok (.iload_n 1, 1) := by decide +kernel
theorem dX11_feed_34 : decode cX11_feed 34 = .ok (.goto 39, 3) := by decide +kernel
theorem dX11_feed_37 : decode cX11_feed 37 = .ok (.iload 6, 2) := by decide +kernel
theorem dX11_feed_39 : decode cX11_feed 39 = .ok (.bipush 8, 2) := by decide +kernel
theorem dX11_feed_41 : decode cX11_feed 41 = .ok (.if_icmp .ge 7, 3) := by decide +kernel
theorem dX11_feed_44 : decode cX11_feed 44 = .ok (.iload_n 2, 1) := by decide +kernel
theorem dX11_feed_45 : decode cX11_feed 45 = .ok (.goto 28, 3) := by decide +kernel
theorem dX11_feed_48 : decode cX11_feed 48 = .ok (.iload 6, 2) := by decide +kernel
theorem dX11_feed_50 : decode cX11_feed 50 = .ok (.bipush 12, 2) := by decide +kernel
theorem dX11_feed_52 : decode cX11_feed 52 = .ok (.if_icmp .ge 7, 3) := by decide +kernel
theorem dX11_feed_55 : decode cX11_feed 55 = .ok (.iload_n 3, 1) := by decide +kernel
theorem dX11_feed_56 : decode cX11_feed 56 = .ok (.goto 17, 3) := by decide +kernel
theorem dX11_feed_59 : decode cX11_feed 59 = .ok (.iload 6, 2) := by decide +kernel
theorem dX11_feed_61 : decode cX11_feed 61 = .ok (.bipush 16, 2) := by decide +kernel
theorem dX11_feed_63 : decode cX11_feed 63 = .ok (.if_icmp .ge 8, 3) := by decide +kernel
theorem dX11_feed_66 : decode cX11_feed 66 = .ok (.iload 4, 2) := by decide +kernel
theorem dX11_feed_68 : decode cX11_feed 68 = .ok (.goto 5, 3) := by decide +kernel
theorem dX11_feed_71 : decode cX11_feed 71 = .ok (.iload 5, 2) := by decide +kernel
theorem dX11_feed_73 : decode cX11_feed 73 = .ok (.istore 7, 2) := by decide +kernel
theorem dX11_feed_75 : decode cX11_feed 75 = .ok (.aload_n 0, 1) := by decide +kernel
theorem dX11_feed_76 : decode cX11_feed 76 = .ok (.getfield 13, 3) := by decide +kernel
theorem dX11_feed_79 : decode cX11_feed 79 = .ok (.aload_n 0, 1) := by decide +kernel
theorem dX11_feed_80 : decode cX11_feed 80 = .ok (.getfield 69, 3) := by decide +kernel
theorem dX11_feed_83 : decode cX11_feed 83 = .ok (.iload 6, 2) := by decide +kernel
theorem dX11_feed_85 : decode cX11_feed 85 = .ok (.iadd, 1) := by decide +kernel
theorem dX11_feed_86 : decode cX11_feed 86 = .ok (.iload 7, 2) := by decide +kernel
theorem dX11_feed_88 : decode cX11_feed 88 = .ok (.bipush 24, 2) := by decide +kernel
theorem dX11_feed_90 : decode cX11_feed 90 = .ok (.bipush 8, 2) := by decide +kernel
theorem dX11_feed_92 : decode cX11_feed 92 = .ok (.iload 6, 2) := by decide +kernel
theorem dX11_feed_94 : decode cX11_feed 94 = .ok (.iconst 4, 1) := by decide +kernel
theorem dX11_feed_95 : decode cX11_feed 95 = .ok (.irem, 1) := by decide +kernel
theorem dX11_feed_96 : decode cX11_feed 96 = .ok (.imul, 1) := by decide +kernel
theorem dX11_feed_97 : decode cX11_feed 97 = .ok (.isub, 1) := by decide +kernel
theorem dX11_feed_98 : decode cX11_feed 98 = .ok (.ishr, 1) := by decide +kernel
theorem dX11_feed_99 : decode cX11_feed 99 = .ok (.sipush 255, 3) := by decide +kernel
theorem dX11_feed_102 : decode cX11_feed 102 = .ok (.iand, 1) := by decide +kernel
theorem dX11_feed_103 : decode cX11_feed 103 = .ok (.iastore, 1) := by decide +kernel
theorem dX11_feed_104 : decode cX11_feed 104 = .ok (.iinc 6 1, 3) := by decide +kernel
theorem dX11_feed_107 : decode cX11_feed 107 = .ok (.goto (-87), 3) := by decide +kernel
theorem dX11_feed_110 : decode cX11_feed 110 = .ok (.aload_n 0, 1) := by decide +kernel
theorem dX11_feed_111 : decode cX11_feed 111 = .ok (.dup, 1) := by decide +kernel
theorem dX11_feed_112 : decode cX11_feed 112 = .ok (.getfield 69, 3) := by decide +kernel
theorem dX11_feed_115 : decode cX11_feed 115 = .ok (.bipush 20, 2) := by decide +kernel
theorem dX11_feed_117 : decode cX11_feed 117 = .ok (.iadd, 1) := by decide +kernel
theorem dX11_feed_118 : decode cX11_feed 118 = .ok (.putfield 69, 3) := by decide +kernel
theorem dX11_feed_121 : decode cX11_feed 121 = .ok (.aload_n 0, 1) := by decide +kernel
theorem dX11_feed_122 : decode cX11_feed 122 = .ok (.getfield 69, 3) := by decide +kernel
theorem dX11_feed_125 : decode cX11_feed 125 = .ok (.ireturn, 1) := by decide +kernel
theorem dX11_end_0 : decode cX11_end 0 = .ok (.aload_n 0, 1) := by decide +kernel
theorem dX11_end_1 : decode cX11_end 1 = .ok (.iconst 0, 1) := by decide +kernel
theorem dX11_end_2 : decode cX11_end 2 = .ok (.putfield 3, 3) := by decide +kernel
theorem dX11_end_5 : decode cX11_end 5 = .ok (.iload_n 1, 1) := by decide +kernel
theorem dX11_end_6 : decode cX11_end 6 = .ok (.i2l, 1) := by decide +kernel
theorem dX11_end_7 : decode cX11_end 7 = .ok (.lconst 0, 1) := by decide +kernel
theorem dX11_end_8 : decode cX11_end 8 = .ok (.aload_n 0, 1) := by decide +kernel
theorem dX11_end_9 : decode cX11_end 9 = .ok (.getfield 69, 3) := by decide +kernel
theorem dX11_end_12 : decode cX11_end 12 = .ok (.i2l, 1) := by decide +kernel
theorem dX11_end_13 : decode cX11_end 13 = .ok (.invokestatic 72, 3) := by decide +kernel
theorem dX11_end_16 : decode cX11_end 16 = .ok (.ifCond .ne 5, 3) := by decide +kernel
theorem dX11_end_19 : decode cX11_end 19 = .ok (.iconst 0, 1) := by decide +kernel
theorem dX11_end_20 : decode cX11_end 20 = .ok (.ireturn, 1) := by decide +kernel
theorem dX11_end_21 : decode cX11_end 21 = .ok (.aload_n 0, 1) := by decide +kernel
theorem dX11_end_22 : decode cX11_end 22 = .ok (.iload_n 1, 1) := by decide +kernel
theorem dX11_end_23 : decode cX11_end 23 = .ok (.putfield 69, 3) := by decide +kernel
theorem dX11_end_26 : decode cX11_end 26 = .ok (.iconst 1, 1) := by decide +kernel
theorem dX11_end_27 : decode cX11_end 27 = .ok (.ireturn, 1) := by decide +kernel
theorem dX11_flaw_0 : decode cX11_flaw 0 = .ok (.aload_n 0, 1) := by decide +kernel
theorem dX11_flaw_1 : decode cX11_flaw 1 = .ok (.getfield 76, 3) := by decide +kernel
theorem dX11_flaw_4 : decode cX11_flaw 4 = .ok (.ifCond .ne 13, 3) := by decide +kernel
theorem dX11_flaw_7 : decode cX11_flaw 7 = .ok (.aload_n 0, 1) := by decide +kernel
theorem dX11_flaw_8 : decode cX11_flaw 8 = .ok (.iload_n 1, 1) := by decide +kernel
theorem dX11_flaw_9 : decode cX11_flaw 9 = .ok (.putfield 76, 3) := by decide +kernel
theorem dX11_flaw_12 : decode cX11_flaw 12 = .ok (.aload_n 0, 1) := by decide +kernel
theorem dX11_flaw_13 : decode cX11_flaw 13 = .ok (.iload_n 2, 1) := by decide +kernel
theorem dX11_flaw_14 : decode cX11_flaw 14 = .ok (.putfield 79, 3) := by decide +kernel
theorem dX11_flaw_17 : decode cX11_flaw 17 = .ok (.return_, 1) := by decide +kernel
theorem dX11_wants_0 : decode cX11_wants 0 = .ok (.aload_n 0, 1) := by decide +kernel
theorem dX11_wants_1 : decode cX11_wants 1 = .ok (.getfield 76, 3) := by decide +kernel
theorem dX11_wants_4 : decode cX11_wants 4 = .ok (.ifCond .eq 5, 3) := by decide +kernel
theorem dX11_wants_7 : decode cX11_wants 7 = .ok (.iconst 0, 1) := by decide +kernel
theorem dX11_wants_8 : decode cX11_wants 8 = .ok (.ireturn, 1) := by decide +kernel
theorem dX11_wants_9 : decode cX11_wants 9 = .ok (.aload_n 0, 1) := by decide +kernel
theorem dX11_wants_10 : decode cX11_wants 10 = .ok (.getfield 82, 3) := by decide +kernel
theorem dX11_wants_13 : decode cX11_wants 13 = .ok (.aload_n 0, 1) := by decide +kernel
theorem dX11_wants_14 : decode cX11_wants 14 = .ok (.getfield 85, 3) := by decide +kernel
theorem dX11_wants_17 : decode cX11_wants 17 = .ok (.if_icmp .ne 14, 3) := by decide +kernel
theorem dX11_wants_20 : decode cX11_wants 20 = .ok (.aload_n 0, 1) := by decide +kernel
theorem dX11_wants_21 : decode cX11_wants 21 = .ok (.iconst 4, 1) := by decide +kernel
theorem dX11_wants_22 : decode cX11_wants 22 = .ok (.aload_n 0, 1) := by decide +kernel
theorem dX11_wants_23 : decode cX11_wants 23 = .ok (.getfield 85, 3) := by decide +kernel
theorem dX11_wants_26 : decode cX11_wants 26 = .ok (.invokevirtual 88, 3) := by decide +kernel
theorem dX11_wants_29 : decode cX11_wants 29 = .ok (.iconst 0, 1) := by decide +kernel
theorem dX11_wants_30 : decode cX11_wants 30 = .ok (.ireturn, 1) := by decide +kernel
theorem dX11_wants_31 : decode cX11_wants 31 = .ok (.aload_n 0, 1) := by decide +kernel
theorem dX11_wants_32 : decode cX11_wants 32 = .ok (.getfield 13, 3) := by decide +kernel
theorem dX11_wants_35 : decode cX11_wants 35 = .ok (.aload_n 0, 1) := by decide +kernel
theorem dX11_wants_36 : decode cX11_wants 36 = .ok (.getfield 82, 3) := by decide +kernel
theorem dX11_wants_39 : decode cX11_wants 39 = .ok (.iaload, 1) := by decide +kernel
theorem dX11_wants_40 : decode cX11_wants 40 = .ok (.istore_n 3, 1) := by decide +kernel
theorem dX11_wants_41 : decode cX11_wants 41 = .ok (.iload_n 3, 1) := by decide +kernel
theorem dX11_wants_42 : decode cX11_wants 42 = .ok (.i2l, 1) := by decide +kernel
theorem dX11_wants_43 : decode cX11_wants 43 = .ok (.iload_n 1, 1) := by decide +kernel
theorem dX11_wants_44 : decode cX11_wants 44 = .ok (.i2l, 1) := by decide +kernel
theorem dX11_wants_45 : decode cX11_wants 45 = .ok (.iload_n 2, 1) := by decide +kernel
theorem dX11_wants_46 : decode cX11_wants 46 = .ok (.i2l, 1) := by decide +kernel
theorem dX11_wants_47 : decode cX11_wants 47 = .ok (.invokestatic 72, 3) := by decide +kernel
theorem dX11_wants_50 : decode cX11_wants 50 = .ok (.ifCond .ne 14, 3) := by decide +kernel
theorem dX11_wants_53 : decode cX11_wants 53 = .ok (.aload_n 0, 1) := by decide +kernel
theorem dX11_wants_54 : decode cX11_wants 54 = .ok (.iconst 4, 1) := by decide +kernel
theorem dX11_wants_55 : decode cX11_wants 55 = .ok (.aload_n 0, 1) := by decide +kernel
theorem dX11_wants_56 : decode cX11_wants 56 = .ok (.getfield 82, 3) := by decide +kernel
theorem dX11_wants_59 : decode cX11_wants 59 = .ok (.invokevirtual 88, 3) := by decide +kernel
theorem dX11_wants_62 : decode cX11_wants 62 = .ok (.iconst 0, 1) := by decide +kernel
theorem dX11_wants_63 : decode cX11_wants 63 = .ok (.ireturn, 1) := by decide +kernel
theorem dX11_wants_64 : decode cX11_wants 64 = .ok (.aload_n 0, 1) := by decide +kernel
theorem dX11_wants_65 : decode cX11_wants 65 = .ok (.dup, 1) := by decide +kernel
theorem dX11_wants_66 : decode cX11_wants 66 = .ok (.getfield 82, 3) := by decide +kernel
theorem dX11_wants_69 : decode cX11_wants 69 = .ok (.iconst 1, 1) := by decide +kernel
theorem dX11_wants_70 : decode cX11_wants 70 = .ok (.iadd, 1) := by decide +kernel
theorem dX11_wants_71 : decode cX11_wants 71 = .ok (.putfield 82, 3) := by decide +kernel
theorem dX11_wants_74 : decode cX11_wants 74 = .ok (.iload_n 3, 1) := by decide +kernel
theorem dX11_wants_75 : decode cX11_wants 75 = .ok (.ireturn, 1) := by decide +kernel
theorem dX11_names_0 : decode cX11_names 0 = .ok (.aload_n 0, 1) := by decide +kernel
theorem dX11_names_1 : decode cX11_names 1 = .ok (.getfield 82, 3) := by decide +kernel
theorem dX11_names_4 : decode cX11_names 4 = .ok (.istore_n 3, 1) := by decide +kernel
theorem dX11_names_5 : decode cX11_names 5 = .ok (.aload_n 0, 1) := by decide +kernel
theorem dX11_names_6 : decode cX11_names 6 = .ok (.iconst 1, 1) := by decide +kernel
theorem dX11_names_7 : decode cX11_names 7 = .ok (.iload_n 2, 1) := by decide +kernel
theorem dX11_names_8 : decode cX11_names 8 = .ok (.invokevirtual 92, 3) := by decide +kernel
theorem dX11_names_11 : decode cX11_names 11 = .ok (.istore 4, 2) := by decide +kernel
theorem dX11_names_13 : decode cX11_names 13 = .ok (.aload_n 0, 1) := by decide +kernel
theorem dX11_names_14 : decode cX11_names 14 = .ok (.getfield 76, 3) := by decide +kernel
theorem dX11_names_17 : decode cX11_names 17 = .ok (.ifCond .ne 24, 3) := by decide +kernel
theorem dX11_names_20 : decode cX11_names 20 = .ok (.aload_n 0, 1) := by decide +kernel
theorem dX11_names_21 : decode cX11_names 21 = .ok (.getfield 51, 3) := by decide +kernel
theorem dX11_names_24 : decode cX11_names 24 = .ok (.bipush 64, 2) := by decide +kernel
theorem dX11_names_26 : decode cX11_names 26 = .ok (.iload_n 1, 1) := by decide +kernel
theorem dX11_names_27 : decode cX11_names 27 = .ok (.imul, 1) := by decide +kernel
theorem dX11_names_28 : decode cX11_names 28 = .ok (.iload 4, 2) := by decide +kernel
theorem dX11_names_30 : decode cX11_names 30 = .ok (.iadd, 1) := by decide +kernel
theorem dX11_names_31 : decode cX11_names 31 = .ok (.baload, 1) := by decide +kernel
theorem dX11_names_32 : decode cX11_names 32 = .ok (.ifCond .eq 9, 3) := by decide +kernel
theorem dX11_names_35 : decode cX11_names 35 = .ok (.aload_n 0, 1) := by decide +kernel
theorem dX11_names_36 : decode cX11_names 36 = .ok (.iconst 4, 1) := by decide +kernel
theorem dX11_names_37 : decode cX11_names 37 = .ok (.iload_n 3, 1) := by decide +kernel
theorem dX11_names_38 : decode cX11_names 38 = .ok (.invokevirtual 88, 3) := by decide +kernel
theorem dX11_names_41 : decode cX11_names 41 = .ok (.aload_n 0, 1) := by decide +kernel
theorem dX11_names_42 : decode cX11_names 42 = .ok (.getfield 51, 3) := by decide +kernel
theorem dX11_names_45 : decode cX11_names 45 = .ok (.bipush 64, 2) := by decide +kernel
theorem dX11_names_47 : decode cX11_names 47 = .ok (.iload_n 1, 1) := by decide +kernel
theorem dX11_names_48 : decode cX11_names 48 = .ok (.imul, 1) := by decide +kernel
theorem dX11_names_49 : decode cX11_names 49 = .ok (.iload 4, 2) := by decide +kernel
theorem dX11_names_51 : decode cX11_names 51 = .ok (.iadd, 1) := by decide +kernel
theorem dX11_names_52 : decode cX11_names 52 = .ok (.iconst 1, 1) := by decide +kernel
theorem dX11_names_53 : decode cX11_names 53 = .ok (.bastore, 1) := by decide +kernel
theorem dX11_names_54 : decode cX11_names 54 = .ok (.return_, 1) := by decide +kernel
theorem dX11_judgeRoom_0 : decode cX11_judgeRoom 0 = .ok (.aload_n 0, 1) := by decide +kernel
theorem dX11_judgeRoom_1 : decode cX11_judgeRoom 1 = .ok (.iconst 0, 1) := by decide +kernel
theorem dX11_judgeRoom_2 : decode cX11_judgeRoom 2 = .ok (.bipush 20, 2) := by decide +kernel
theorem dX11_judgeRoom_4 : decode cX11_judgeRoom 4 = .ok (.invokevirtual 96, 3) := by decide +kernel
theorem dX11_judgeRoom_7 : decode cX11_judgeRoom 7 = .ok (.aload_n 0, 1) := by decide +kernel
theorem dX11_judgeRoom_8 : decode cX11_judgeRoom 8 = .ok (.iconst 0, 1) := by decide +kernel
theorem dX11_judgeRoom_9 : decode cX11_judgeRoom 9 = .ok (.bipush 16, 2) := by decide +kernel
theorem dX11_judgeRoom_11 : decode cX11_judgeRoom 11 = .ok (.invokevirtual 92, 3) := by decide +kernel
theorem dX11_judgeRoom_14 : decode cX11_judgeRoom 14 = .ok (.istore_n 1, 1) := by decide +kernel
theorem dX11_judgeRoom_15 : decode cX11_judgeRoom 15 = .ok (.iconst 0, 1) := by decide +kernel
theorem dX11_judgeRoom_16 : decode cX11_judgeRoom 16 = .ok (.istore_n 2, 1) := by decide +kernel
theorem dX11_judgeRoom_17 : decode cX11_judgeRoom 17 = .ok (.iload_n 2, 1) := by decide +kernel
theorem dX11_judgeRoom_18 : decode cX11_judgeRoom 18 = .ok (.iload_n 1, 1) := by decide +kernel
theorem dX11_judgeRoom_19 : decode cX11_judgeRoom 19 = .ok (.if_icmp .ge 64, 3) := by decide +kernel
theorem dX11_judgeRoom_22 : decode cX11_judgeRoom 22 = .ok (.aload_n 0, 1) := by decide +kernel
theorem dX11_judgeRoom_23 : decode cX11_judgeRoom 23 = .ok (.getfield 76, 3) := by decide +kernel
theorem dX11_judgeRoom_26 : decode cX11_judgeRoom 26 = .ok (.ifCond .ne 57, 3) := by decide +kernel
theorem dX11_judgeRoom_29 : decode cX11_judgeRoom 29 = .ok (.aload_n 0, 1) := by decide +kernel
theorem dX11_judgeRoom_30 : decode cX11_judgeRoom 30 = .ok (.iconst 0, 1) := by decide +kernel
theorem dX11_judgeRoom_31 : decode cX11_judgeRoom 31 = .ok (.sipush 255, 3) := by decide +kernel
theorem dX11_judgeRoom_34 : decode cX11_judgeRoom 34 = .ok (.invokevirtual 92, 3) := by decide +kernel
theorem dX11_judgeRoom_37 : decode cX11_judgeRoom 37 = .ok (.istore_n 3, 1) := by decide +kernel
theorem dX11_judgeRoom_38 : decode cX11_judgeRoom 38 = .ok (.aload_n 0, 1) := by decide +kernel
theorem dX11_judgeRoom_39 : decode cX11_judgeRoom 39 = .ok (.iconst 0, 1) := by decide +kernel
theorem dX11_judgeRoom_40 : decode cX11_judgeRoom 40 = .ok (.sipush 255, 3) := by decide +kernel
theorem dX11_judgeRoom_43 : decode cX11_judgeRoom 43 = .ok (.invokevirtual 92, 3) := by decide +kernel
theorem dX11_judgeRoom_46 : decode cX11_judgeRoom 46 = .ok (.istore 4, 2) := by decide +kernel
theorem dX11_judgeRoom_48 : decode cX11_judgeRoom 48 = .ok (.aload_n 0, 1) := by decide +kernel
theorem dX11_judgeRoom_49 : decode cX11_judgeRoom 49 = .ok (.iload_n 3, 1) := by decide +kernel
theorem dX11_judgeRoom_50 : decode cX11_judgeRoom 50 = .ok (.sipush 255, 3) := by decide +kernel
theorem dX11_judgeRoom_53 : decode cX11_judgeRoom 53 = .ok (.invokevirtual 92, 3) := by decide +kernel
theorem dX11_judgeRoom_56 : decode cX11_judgeRoom 56 = .ok (.istore 5, 2) := by decide +kernel
theorem dX11_judgeRoom_58 : decode cX11_judgeRoom 58 = .ok (.aload_n 0, 1) := by decide +kernel
theorem dX11_judgeRoom_59 : decode cX11_judgeRoom 59 = .ok (.iload 4, 2) := by decide +kernel
theorem dX11_judgeRoom_61 : decode cX11_judgeRoom 61 = .ok (.sipush 255, 3) := by decide +kernel
theorem dX11_judgeRoom_64 : decode cX11_judgeRoom 64 = .ok (.invokevirtual 92, 3) := by decide +kernel
theorem dX11_judgeRoom_67 : decode cX11_judgeRoom 67 = .ok (.istore 6, 2) := by decide +kernel
theorem dX11_judgeRoom_69 : decode cX11_judgeRoom 69 = .ok (.aload_n 0, 1) := by decide +kernel
theorem dX11_judgeRoom_70 : decode cX11_judgeRoom 70 = .ok (.iconst 0, 1) := by decide +kernel
theorem dX11_judgeRoom_71 : decode cX11_judgeRoom 71 = .ok (.iconst 1, 1) := by decide +kernel
theorem dX11_judgeRoom_72 : decode cX11_judgeRoom 72 = .ok (.invokevirtual 92, 3) := by decide +kernel
theorem dX11_judgeRoom_75 : decode cX11_judgeRoom 75 = .ok (.istore 7, 2) := by decide +kernel
theorem dX11_judgeRoom_77 : decode cX11_judgeRoom 77 = .ok (.iinc 2 1, 3) := by decide +kernel
theorem dX11_judgeRoom_80 : decode cX11_judgeRoom 80 = .ok (.goto (-63), 3) := by decide +kernel
theorem dX11_judgeRoom_83 : decode cX11_judgeRoom 83 = .ok (.return_, 1) := by decide +kernel
theorem dX11_judgeObject_0 : decode cX11_judgeObject 0 = .ok (.aload_n 0, 1) := by decide +kernel
theorem dX11_judgeObject_1 : decode cX11_judgeObject 1 = .ok (.iconst 2, 1) := by decide +kernel
theorem dX11_judgeObject_2 : decode cX11_judgeObject 2 = .ok (.bipush 60, 2) := by decide +kernel
theorem dX11_judgeObject_4 : decode cX11_judgeObject 4 = .ok (.invokevirtual 96, 3) := by decide +kernel
theorem dX11_judgeObject_7 : decode cX11_judgeObject 7 = .ok (.aload_n 0, 1) := by decide +kernel
theorem dX11_judgeObject_8 : decode cX11_judgeObject 8 = .ok (.iconst 0, 1) := by decide +kernel
theorem dX11_judgeObject_9 : decode cX11_judgeObject 9 = .ok (.bipush 20, 2) := by decide +kernel
theorem dX11_judgeObject_11 : decode cX11_judgeObject 11 = .ok (.invokevirtual 92, 3) := by decide +kernel
theorem dX11_judgeObject_14 : decode cX11_judgeObject 14 = .ok (.istore_n 1, 1) := by decide +kernel
theorem dX11_judgeObject_15 : decode cX11_judgeObject 15 = .ok (.iconst 0, 1) := by decide +kernel
theorem dX11_judgeObject_16 : decode cX11_judgeObject 16 = .ok (.istore_n 2, 1) := by decide +kernel
theorem dX11_judgeObject_17 : decode cX11_judgeObject 17 = .ok (.iload_n 2, 1) := by decide +kernel
theorem dX11_judgeObject_18 : decode cX11_judgeObject 18 = .ok (.iconst 3, 1) := by decide +kernel
theorem dX11_judgeObject_19 : decode cX11_judgeObject 19 = .ok (.if_icmp .ge 18, 3) := by decide +kernel
theorem dX11_judgeObject_22 : decode cX11_judgeObject 22 = .ok (.aload_n 0, 1) := by decide +kernel
theorem dX11_judgeObject_23 : decode cX11_judgeObject 23 = .ok (.iconst 0, 1) := by decide +kernel
theorem dX11_judgeObject_24 : decode cX11_judgeObject 24 = .ok (.sipush 255, 3) := by decide +kernel
theorem dX11_judgeObject_27 : decode cX11_judgeObject 27 = .ok (.invokevirtual 92, 3) := by decide +kernel
theorem dX11_judgeObject_30 : decode cX11_judgeObject 30 = .ok (.istore_n 1, 1) := by decide +kernel
theorem dX11_judgeObject_31 : decode cX11_judgeObject 31 = .ok (.iinc 2 1, 3) := by decide +kernel
theorem dX11_judgeObject_34 : decode cX11_judgeObject 34 = .ok (.goto (-17), 3) := by decide +kernel
theorem dX11_judgeObject_37 : decode cX11_judgeObject 37 = .ok (.iconst 0, 1) := by decide +kernel
theorem dX11_judgeObject_38 : decode cX11_judgeObject 38 = .ok (.istore_n 2, 1) := by decide +kernel
theorem dX11_judgeObject_39 : decode cX11_judgeObject 39 = .ok (.iload_n 2, 1) := by decide +kernel
theorem dX11_judgeObject_40 : decode cX11_judgeObject 40 = .ok (.sipush 256, 3) := by decide +kernel
theorem dX11_judgeObject_43 : decode cX11_judgeObject 43 = .ok (.if_icmp .ge 16, 3) := by decide +kernel
theorem dX11_judgeObject_46 : decode cX11_judgeObject 46 = .ok (.aload_n 0, 1) := by decide +kernel
theorem dX11_judgeObject_47 : decode cX11_judgeObject 47 = .ok (.getfield 54, 3) := by decide +kernel
theorem dX11_judgeObject_50 : decode cX11_judgeObject 50 = .ok (.iload_n 2, 1) := by decide +kernel
theorem dX11_judgeObject_51 : decode cX11_judgeObject 51 = .ok (.iconst 0, 1) := by decide +kernel
theorem dX11_judgeObject_52 : decode cX11_judgeObject 52 = .ok (.bastore, 1) := by decide +kernel
theorem dX11_judgeObject_53 : decode cX11_judgeObject 53 = .ok (.iinc 2 1, 3) := by decide +kernel
theorem dX11_judgeObject_56 : decode cX11_judgeObject 56 = .ok (.goto (-17), 3) := by decide +kernel
theorem dX11_judgeObject_59 : decode cX11_judgeObject 59 = .ok (.aload_n 0, 1) := by decide +kernel
theorem dX11_judgeObject_60 : decode cX11_judgeObject 60 = .ok (.getfield 76, 3) := by decide +kernel
theorem dX11_judgeObject_63 : decode cX11_judgeObject 63 = .ok (.ifCond .ne 68, 3) := by decide +kernel
theorem dX11_judgeObject_66 : decode cX11_judgeObject 66 = .ok (.aload_n 0, 1) := by decide +kernel
theorem dX11_judgeObject_67 : decode cX11_judgeObject 67 = .ok (.getfield 82, 3) := by decide +kernel
theorem dX11_judgeObject_70 : decode cX11_judgeObject 70 = .ok (.aload_n 0, 1) := by decide +kernel
theorem dX11_judgeObject_71 : decode cX11_judgeObject 71 = .ok (.getfield 85, 3) := by decide +kernel
theorem dX11_judgeObject_74 : decode cX11_judgeObject 74 = .ok (.if_icmp .ge 57, 3) := by decide +kernel
theorem dX11_judgeObject_77 : decode cX11_judgeObject 77 = .ok (.aload_n 0, 1) := by decide +kernel
theorem dX11_judgeObject_78 : decode cX11_judgeObject 78 = .ok (.getfield 82, 3) := by decide +kernel
theorem dX11_judgeObject_81 : decode cX11_judgeObject 81 = .ok (.istore_n 2, 1) := by decide +kernel
theorem dX11_judgeObject_82 : decode cX11_judgeObject 82 = .ok (.aload_n 0, 1) := by decide +kernel
theorem dX11_judgeObject_83 : decode cX11_judgeObject 83 = .ok (.iconst 1, 1) := by decide +kernel
theorem dX11_judgeObject_84 : decode cX11_judgeObject 84 = .ok (.sipush 255, 3) := by decide +kernel
theorem dX11_judgeObject_87 : decode cX11_judgeObject 87 = .ok (.invokevirtual 92, 3) := by decide +kernel
theorem dX11_judgeObject_90 : decode cX11_judgeObject 90 = .ok (.istore_n 1, 1) := by decide +kernel
theorem dX11_judgeObject_91 : decode cX11_judgeObject 91 = .ok (.aload_n 0, 1) := by decide +kernel
theorem dX11_judgeObject_92 : decode cX11_judgeObject 92 = .ok (.getfield 76, 3) := by decide +kernel
theorem dX11_judgeObject_95 : decode cX11_judgeObject 95 = .ok (.ifCond .ne 18, 3) := by decide +kernel
theorem dX11_judgeObject_98 : decode cX11_judgeObject 98 = .ok (.aload_n 0, 1) := by decide +kernel
theorem dX11_judgeObject_99 : decode cX11_judgeObject 99 = .ok (.getfield 54, 3) := by decide +kernel
theorem dX11_judgeObject_102 : decode cX11_judgeObject 102 = .ok (.iload_n 1, 1) := by decide +kernel
theorem dX11_judgeObject_103 : decode cX11_judgeObject 103 = .ok (.baload, 1) := by decide +kernel
theorem dX11_judgeObject_104 : decode cX11_judgeObject 104 = .ok (.ifCond .eq 9, 3) := by decide +kernel
theorem dX11_judgeObject_107 : decode cX11_judgeObject 107 = .ok (.aload_n 0, 1) := by decide +kernel
theorem dX11_judgeObject_108 : decode cX11_judgeObject 108 = .ok (.iconst 4, 1) := by decide +kernel
theorem dX11_judgeObject_109 : decode cX11_judgeObject 109 = .ok (.iload_n 2, 1) := by decide +kernel
theorem dX11_judgeObject_110 : decode cX11_judgeObject 110 = .ok (.invokevirtual 88, 3) := by decide +kernel
theorem dX11_judgeObject_113 : decode cX11_judgeObject 113 = .ok (.aload_n 0, 1) := by decide +kernel
theorem dX11_judgeObject_114 : decode cX11_judgeObject 114 = .ok (.getfield 54, 3) := by decide +kernel
theorem dX11_judgeObject_117 : decode cX11_judgeObject 117 = .ok (.iload_n 1, 1) := by decide +kernel
theorem dX11_judgeObject_118 : decode cX11_judgeObject 118 = .ok (.iconst 1, 1) := by decide +kernel
theorem dX11_judgeObject_119 : decode cX11_judgeObject 119 = .ok (.bastore, 1) := by decide +kernel
theorem dX11_judgeObject_120 : decode cX11_judgeObject 120 = .ok (.aload_n 0, 1) := by decide +kernel
theorem dX11_judgeObject_121 : decode cX11_judgeObject 121 = .ok (.iconst 1, 1) := by decide +kernel
theorem dX11_judgeObject_122 : decode cX11_judgeObject 122 = .ok (.bipush 60, 2) := by decide +kernel
theorem dX11_judgeObject_124 : decode cX11_judgeObject 124 = .ok (.invokevirtual 92, 3) := by decide +kernel
theorem dX11_judgeObject_127 : decode cX11_judgeObject 127 = .ok (.istore_n 1, 1) := by decide +kernel
theorem dX11_judgeObject_128 : decode cX11_judgeObject 128 = .ok (.goto (-69), 3) := by decide +kernel
theorem dX11_judgeObject_131 : decode cX11_judgeObject 131 = .ok (.return_, 1) := by decide +kernel
theorem dX11_judge_0 : decode cX11_judge 0 = .ok (.aload_n 0, 1) := by decide +kernel
theorem dX11_judge_1 : decode cX11_judge 1 = .ok (.iconst 0, 1) := by decide +kernel
theorem dX11_judge_2 : decode cX11_judge 2 = .ok (.putfield 76, 3) := by decide +kernel
theorem dX11_judge_5 : decode cX11_judge 5 = .ok (.iconst 0, 1) := by decide +kernel
theorem dX11_judge_6 : decode cX11_judge 6 = .ok (.istore_n 2, 1) := by decide +kernel
theorem dX11_judge_7 : decode cX11_judge 7 = .ok (.iload_n 2, 1) := by decide +kernel
theorem dX11_judge_8 : decode cX11_judge 8 = .ok (.sipush 256, 3) := by decide +kernel
theorem dX11_judge_11 : decode cX11_judge 11 = .ok (.if_icmp .ge 16, 3) := by decide +kernel
theorem dX11_judge_14 : decode cX11_judge 14 = .ok (.aload_n 0, 1) := by decide +kernel
theorem dX11_judge_15 : decode cX11_judge 15 = .ok (.getfield 51, 3) := by decide +kernel
theorem dX11_judge_18 : decode cX11_judge 18 = .ok (.iload_n 2, 1) := by decide +kernel
theorem dX11_judge_19 : decode cX11_judge 19 = .ok (.iconst 0, 1) := by decide +kernel
theorem dX11_judge_20 : decode cX11_judge 20 = .ok (.bastore, 1) := by decide +kernel
theorem dX11_judge_21 : decode cX11_judge 21 = .ok (.iinc 2 1, 3) := by decide +kernel
theorem dX11_judge_24 : decode cX11_judge 24 = .ok (.goto (-17), 3) := by decide +kernel
theorem dX11_judge_27 : decode cX11_judge 27 = .ok (.iconst 4, 1) := by decide +kernel
theorem dX11_judge_28 : decode cX11_judge 28 = .ok (.newarray .int, 2) := by decide +kernel
theorem dX11_judge_30 : decode cX11_judge 30 = .ok (.dup, 1) := by decide +kernel
theorem dX11_judge_31 : decode cX11_judge 31 = .ok (.iconst 0, 1) := by decide +kernel
theorem dX11_judge_32 : decode cX11_judge 32 = .ok (.bipush 80, 2) := by decide +kernel
theorem dX11_judge_34 : decode cX11_judge 34 = .ok (.iastore, 1) := by decide +kernel
theorem dX11_judge_35 : decode cX11_judge 35 = .ok (.dup, 1) := by decide +kernel
theorem dX11_judge_36 : decode cX11_judge 36 = .ok (.iconst 1, 1) := by decide +kernel
theorem dX11_judge_37 : decode cX11_judge 37 = .ok (.bipush 76, 2) := by decide +kernel
theorem dX11_judge_39 : decode cX11_judge 39 = .ok (.iastore, 1) := by decide +kernel
theorem dX11_judge_40 : decode cX11_judge 40 = .ok (.dup, 1) := by decide +kernel
theorem dX11_judge_41 : decode cX11_judge 41 = .ok (.iconst 2, 1) := by decide +kernel
theorem dX11_judge_42 : decode cX11_judge 42 = .ok (.bipush 65, 2) := by decide +kernel
theorem dX11_judge_44 : decode cX11_judge 44 = .ok (.iastore, 1) := by decide +kernel
theorem dX11_judge_45 : decode cX11_judge 45 = .ok (.dup, 1) := by decide +kernel
theorem dX11_judge_46 : decode cX11_judge 46 = .ok (.iconst 3, 1) := by decide +kernel
theorem dX11_judge_47 : decode cX11_judge 47 = .ok (.bipush 89, 2) := by decide +kernel
theorem dX11_judge_49 : decode cX11_judge 49 = .ok (.iastore, 1) := by decide +kernel
theorem dX11_judge_50 : decode cX11_judge 50 = .ok (.astore_n 2, 1) := by decide +kernel
theorem dX11_judge_51 : decode cX11_judge 51 = .ok (.iconst 0, 1) := by decide +kernel
theorem dX11_judge_52 : decode cX11_judge 52 = .ok (.istore_n 3, 1) := by decide +kernel
theorem dX11_judge_53 : decode cX11_judge 53 = .ok (.iload_n 3, 1) := by decide +kernel
theorem dX11_judge_54 : decode cX11_judge 54 = .ok (.iconst 4, 1) := by decide +kernel
theorem dX11_judge_55 : decode cX11_judge 55 = .ok (.if_icmp .ge 32, 3) := by decide +kernel
theorem dX11_judge_58 : decode cX11_judge 58 = .ok (.iload_n 3, 1) := by decide +kernel
theorem dX11_judge_59 : decode cX11_judge 59 = .ok (.iload_n 1, 1) := by decide +kernel
theorem dX11_judge_60 : decode cX11_judge 60 = .ok (.if_icmp .ge 15, 3) := by decide +kernel
theorem dX11_judge_63 : decode cX11_judge 63 = .ok (.aload_n 0, 1) := by decide +kernel
theorem dX11_judge_64 : decode cX11_judge 64 = .ok (.getfield 13, 3) := by decide +kernel
theorem dX11_judge_67 : decode cX11_judge 67 = .ok (.iload_n 3, 1) := by decide +kernel
theorem dX11_judge_68 : decode cX11_judge 68 = .ok (.iaload, 1) := by decide +kernel
theorem dX11_judge_69 : decode cX11_judge 69 = .ok (.aload_n 2, 1) := by decide +kernel
theorem dX11_judge_70 : decode cX11_judge 70 = .ok (.iload_n 3, 1) := by decide +kernel
theorem dX11_judge_71 : decode cX11_judge 71 = .ok (.iaload, 1) := by decide +kernel
theorem dX11_judge_72 : decode cX11_judge 72 = .ok (.if_icmp .eq 9, 3) := by decide +kernel
theorem dX11_judge_75 : decode cX11_judge 75 = .ok (.aload_n 0, 1) := by decide +kernel
theorem dX11_judge_76 : decode cX11_judge 76 = .ok (.iconst 1, 1) := by decide +kernel
theorem dX11_judge_77 : decode cX11_judge 77 = .ok (.iload_n 3, 1) := by decide +kernel
theorem dX11_judge_78 : decode cX11_judge 78 = .ok (.invokevirtual 88, 3) := by decide +kernel
theorem dX11_judge_81 : decode cX11_judge 81 = .ok (.iinc 3 1, 3) := by decide +kernel
theorem dX11_judge_84 : decode cX11_judge 84 = .ok (.goto (-31), 3) := by decide +kernel
theorem dX11_judge_87 : decode cX11_judge 87 = .ok (.iconst 0, 1) := by decide +kernel
theorem dX11_judge_88 : decode cX11_judge 88 = .ok (.istore_n 3, 1) := by decide +kernel
theorem dX11_judge_89 : decode cX11_judge 89 = .ok (.iconst 4, 1) := by decide +kernel
theorem dX11_judge_90 : decode cX11_judge 90 = .ok (.istore 4, 2) := by decide +kernel
theorem dX11_judge_92 : decode cX11_judge 92 = .ok (.aload_n 0, 1) := by decide +kernel
theorem dX11_judge_93 : decode cX11_judge 93 = .ok (.getfield 76, 3) := by decide +kernel
theorem dX11_judge_96 : decode cX11_judge 96 = .ok (.ifCond .ne 182, 3) := by decide +kernel
theorem dX11_judge_99 : decode cX11_judge 99 = .ok (.iload 4, 2) := by decide +kernel
theorem dX11_judge_101 : decode cX11_judge 101 = .ok (.iload_n 1, 1) := by decide +kernel
theorem dX11_judge_102 : decode cX11_judge 102 = .ok (.if_icmp .ge 176, 3) := by decide +kernel
theorem dX11_judge_105 : decode cX11_judge 105 = .ok (.aload_n 0, 1) := by decide +kernel
theorem dX11_judge_106 : decode cX11_judge 106 = .ok (.getfield 13, 3) := by decide +kernel
theorem dX11_judge_109 : decode cX11_judge 109 = .ok (.iload 4, 2) := by decide +kernel
theorem dX11_judge_111 : decode cX11_judge 111 = .ok (.iaload, 1) := by decide +kernel
theorem dX11_judge_112 : decode cX11_judge 112 = .ok (.istore 5, 2) := by decide +kernel
theorem dX11_judge_114 : decode cX11_judge 114 = .ok (.iload 5, 2) := by decide +kernel
theorem dX11_judge_116 : decode cX11_judge 116 = .ok (.bipush 82, 2) := by decide +kernel
theorem dX11_judge_118 : decode cX11_judge 118 = .ok (.if_icmp .eq 34, 3) := by decide +kernel
theorem dX11_judge_121 : decode cX11_judge 121 = .ok (.iload 5, 2) := by decide +kernel
theorem dX11_judge_123 : decode cX11_judge 123 = .ok (.bipush 83, 2) := by decide +kernel
theorem dX11_judge_125 : decode cX11_judge 125 = .ok (.if_icmp .eq 27, 3) := by decide +kernel
theorem dX11_judge_128 : decode cX11_judge 128 = .ok (.iload 5, 2) := by decide +kernel
theorem dX11_judge_130 : decode cX11_judge 130 = .ok (.bipush 79, 2) := by decide +kernel
theorem dX11_judge_132 : decode cX11_judge 132 = .ok (.if_icmp .eq 20, 3) := by decide +kernel
theorem dX11_judge_135 : decode cX11_judge 135 = .ok (.iload 5, 2) := by decide +kernel
theorem dX11_judge_137 : decode cX11_judge 137 = .ok (.bipush 65, 2) := by decide +kernel
theorem dX11_judge_139 : decode cX11_judge 139 = .ok (.if_icmp .eq 13, 3) := by decide +kernel
theorem dX11_judge_142 : decode cX11_judge 142 = .ok (.aload_n 0, 1) := by decide +kernel
theorem dX11_judge_143 : decode cX11_judge 143 = .ok (.iconst 2, 1) := by decide +kernel
theorem dX11_judge_144 : decode cX11_judge 144 = .ok (.iload 4, 2) := by decide +kernel
theorem dX11_judge_146 : decode cX11_judge 146 = .ok (.invokevirtual 88, 3) := by decide +kernel
theorem dX11_judge_149 : decode cX11_judge 149 = .ok (.goto 126, 3) := by decide +kernel
theorem dX11_judge_152 : decode cX11_judge 152 = .ok (.iload 4, 2) := by decide +kernel
theorem dX11_judge_154 : decode cX11_judge 154 = .ok (.iconst 3, 1) := by decide +kernel
theorem dX11_judge_155 : decode cX11_judge 155 = .ok (.iadd, 1) := by decide +kernel
theorem dX11_judge_156 : decode cX11_judge 156 = .ok (.iload_n 1, 1) := by decide +kernel
theorem dX11_judge_157 : decode cX11_judge 157 = .ok (.if_icmp .gt 34, 3) := by decide +kernel
theorem dX11_judge_160 : decode cX11_judge 160 = .ok (.iload 4, 2) := by decide +kernel
theorem dX11_judge_162 : decode cX11_judge 162 = .ok (.iconst 3, 1) := by decide +kernel
theorem dX11_judge_163 : decode cX11_judge 163 = .ok (.iadd, 1) := by decide +kernel
theorem dX11_judge_164 : decode cX11_judge 164 = .ok (.aload_n 0, 1) := by decide +kernel
theorem dX11_judge_165 : decode cX11_judge 165 = .ok (.getfield 13, 3) := by decide +kernel
theorem dX11_judge_168 : decode cX11_judge 168 = .ok (.iload 4, 2) := by decide +kernel
theorem dX11_judge_170 : decode cX11_judge 170 = .ok (.iconst 1, 1) := by decide +kernel
theorem dX11_judge_171 : decode cX11_judge 171 = .ok (.iadd, 1) := by decide +kernel
theorem dX11_judge_172 : decode cX11_judge 172 = .ok (.iaload, 1) := by decide +kernel
theorem dX11_judge_173 : decode cX11_judge 173 = .ok (.bipush 8, 2) := by decide +kernel
theorem dX11_judge_175 : decode cX11_judge 175 = .ok (.ishl, 1) := by decide +kernel
theorem dX11_judge_176 : decode cX11_judge 176 = .ok (.aload_n 0, 1) := by decide +kernel
theorem dX11_judge_177 : decode cX11_judge 177 = .ok (.getfield 13, 3) := by decide +kernel
theorem dX11_judge_180 : decode cX11_judge 180 = .ok (.iload 4, 2) := by decide +kernel
theorem dX11_judge_182 : decode cX11_judge 182 = .ok (.iconst 2, 1) := by decide +kernel
theorem dX11_judge_183 : decode cX11_judge 183 = .ok (.iadd, 1) := by decide +kernel
theorem dX11_judge_184 : decode cX11_judge 184 = .ok (.iaload, 1) := by decide +kernel
theorem dX11_judge_185 : decode cX11_judge 185 = .ok (.ior, 1) := by decide +kernel
theorem dX11_judge_186 : decode cX11_judge 186 = .ok (.iadd, 1) := by decide +kernel
theorem dX11_judge_187 : decode cX11_judge 187 = .ok (.iload_n 1, 1) := by decide +kernel
theorem dX11_judge_188 : decode cX11_judge 188 = .ok (.if_icmp .le 13, 3) := by decide +kernel
theorem dX11_judge_191 : decode cX11_judge 191 = .ok (.aload_n 0, 1) := by decide +kernel
theorem dX11_judge_192 : decode cX11_judge 192 = .ok (.iconst 3, 1) := by decide +kernel
theorem dX11_judge_193 : decode cX11_judge 193 = .ok (.iload 4, 2) := by decide +kernel
theorem dX11_judge_195 : decode cX11_judge 195 = .ok (.invokevirtual 88, 3) := by decide +kernel
theorem dX11_judge_198 : decode cX11_judge 198 = .ok (.goto 77, 3) := by decide +kernel
theorem dX11_judge_201 : decode cX11_judge 201 = .ok (.aload_n 0, 1) := by decide +kernel
theorem dX11_judge_202 : decode cX11_judge 202 = .ok (.iload 4, 2) := by decide +kernel
theorem dX11_judge_204 : decode cX11_judge 204 = .ok (.iconst 3, 1) := by decide +kernel
theorem dX11_judge_205 : decode cX11_judge 205 = .ok (.iadd, 1) := by decide +kernel
theorem dX11_judge_206 : decode cX11_judge 206 = .ok (.putfield 82, 3) := by decide +kernel
theorem dX11_judge_209 : decode cX11_judge 209 = .ok (.aload_n 0, 1) := by decide +kernel
theorem dX11_judge_210 : decode cX11_judge 210 = .ok (.aload_n 0, 1) := by decide +kernel
theorem dX11_judge_211 : decode cX11_judge 211 = .ok (.getfield 82, 3) := by decide +kernel
theorem dX11_judge_214 : decode cX11_judge 214 = .ok (.aload_n 0, 1) := by decide +kernel
theorem dX11_judge_215 : decode cX11_judge 215 = .ok (.getfield 13, 3) := by decide +kernel
theorem dX11_judge_218 : decode cX11_judge 218 = .ok (.iload 4, 2) := by decide +kernel
theorem dX11_judge_220 : decode cX11_judge 220 = .ok (.iconst 1, 1) := by decide +kernel
theorem dX11_judge_221 : decode cX11_judge 221 = .ok (.iadd, 1) := by decide +kernel
theorem dX11_judge_222 : decode cX11_judge 222 = .ok (.iaload, 1) := by decide +kernel
theorem dX11_judge_223 : decode cX11_judge 223 = .ok (.bipush 8, 2) := by decide +kernel
theorem dX11_judge_225 : decode cX11_judge 225 = .ok (.ishl, 1) := by decide +kernel
theorem dX11_judge_226 : decode cX11_judge 226 = .ok (.aload_n 0, 1) := by decide +kernel
theorem dX11_judge_227 : decode cX11_judge 227 = .ok (.getfield 13, 3) := by decide +kernel
theorem dX11_judge_230 : decode cX11_judge 230 = .ok (.iload 4, 2) := by decide +kernel
theorem dX11_judge_232 : decode cX11_judge 232 = .ok (.iconst 2, 1) := by decide +kernel
theorem dX11_judge_233 : decode cX11_judge 233 = .ok (.iadd, 1) := by decide +kernel
theorem dX11_judge_234 : decode cX11_judge 234 = .ok (.iaload, 1) := by decide +kernel
theorem dX11_judge_235 : decode cX11_judge 235 = .ok (.ior, 1) := by decide +kernel
theorem dX11_judge_236 : decode cX11_judge 236 = .ok (.iadd, 1) := by decide +kernel
theorem dX11_judge_237 : decode cX11_judge 237 = .ok (.putfield 85, 3) := by decide +kernel
theorem dX11_judge_240 : decode cX11_judge 240 = .ok (.aload_n 0, 1) := by decide +kernel
theorem dX11_judge_241 : decode cX11_judge 241 = .ok (.iload 5, 2) := by decide +kernel
theorem dX11_judge_243 : decode cX11_judge 243 = .ok (.invokevirtual 99, 3) := by decide +kernel
theorem dX11_judge_246 : decode cX11_judge 246 = .ok (.aload_n 0, 1) := by decide +kernel
theorem dX11_judge_247 : decode cX11_judge 247 = .ok (.getfield 82, 3) := by decide +kernel
theorem dX11_judge_250 : decode cX11_judge 250 = .ok (.aload_n 0, 1) := by decide +kernel
theorem dX11_judge_251 : decode cX11_judge 251 = .ok (.getfield 85, 3) := by decide +kernel
theorem dX11_judge_254 : decode cX11_judge 254 = .ok (.if_icmp .ge 12, 3) := by decide +kernel
theorem dX11_judge_257 : decode cX11_judge 257 = .ok (.aload_n 0, 1) := by decide +kernel
theorem dX11_judge_258 : decode cX11_judge 258 = .ok (.iconst 4, 1) := by decide +kernel
theorem dX11_judge_259 : decode cX11_judge 259 = .ok (.aload_n 0, 1) := by decide +kernel
theorem dX11_judge_260 : decode cX11_judge 260 = .ok (.getfield 82, 3) := by decide +kernel
theorem dX11_judge_263 : decode cX11_judge 263 = .ok (.invokevirtual 88, 3) := by decide +kernel
theorem dX11_judge_266 : decode cX11_judge 266 = .ok (.aload_n 0, 1) := by decide +kernel
theorem dX11_judge_267 : decode cX11_judge 267 = .ok (.getfield 85, 3) := by decide +kernel
theorem dX11_judge_270 : decode cX11_judge 270 = .ok (.istore 4, 2) := by decide +kernel
theorem dX11_judge_272 : decode cX11_judge 272 = .ok (.iinc 3 1, 3) := by decide +kernel
theorem dX11_judge_275 : decode cX11_judge 275 = .ok (.goto (-183), 3) := by decide +kernel
theorem dX11_judge_278 : decode cX11_judge 278 = .ok (.iload_n 3, 1) := by decide +kernel
theorem dX11_judge_279 : decode cX11_judge 279 = .ok (.ireturn, 1) := by decide +kernel
theorem dX11_judgeBlock_0 : decode cX11_judgeBlock 0 = .ok (.iload_n 1, 1) := by decide +kernel
theorem dX11_judgeBlock_1 : decode cX11_judgeBlock 1 = .ok (.bipush 82, 2) := by decide +kernel
theorem dX11_judgeBlock_3 : decode cX11_judgeBlock 3 = .ok (.if_icmp .ne 10, 3) := by decide +kernel
theorem dX11_judgeBlock_6 : decode cX11_judgeBlock 6 = .ok (.aload_n 0, 1) := by decide +kernel
theorem dX11_judgeBlock_7 : decode cX11_judgeBlock 7 = .ok (.invokevirtual 103, 3) := by decide +kernel
theorem dX11_judgeBlock_10 : decode cX11_judgeBlock 10 = .ok (.goto 104, 3) := by decide +kernel
theorem dX11_judgeBlock_13 : decode cX11_judgeBlock 13 = .ok (.iload_n 1, 1) := by decide +kernel
theorem dX11_judgeBlock_14 : decode cX11_judgeBlock 14 = .ok (.bipush 83, 2) := by decide +kernel
theorem dX11_judgeBlock_16 : decode cX11_judgeBlock 16 = .ok (.if_icmp .ne 44, 3) := by decide +kernel
theorem dX11_judgeBlock_19 : decode cX11_judgeBlock 19 = .ok (.aload_n 0, 1) := by decide +kernel
theorem dX11_judgeBlock_20 : decode cX11_judgeBlock 20 = .ok (.iconst 1, 1) := by decide +kernel
theorem dX11_judgeBlock_21 : decode cX11_judgeBlock 21 = .ok (.bipush 60, 2) := by decide +kernel
theorem dX11_judgeBlock_23 : decode cX11_judgeBlock 23 = .ok (.invokevirtual 96, 3) := by decide +kernel
theorem dX11_judgeBlock_26 : decode cX11_judgeBlock 26 = .ok (.aload_n 0, 1) := by decide +kernel
theorem dX11_judgeBlock_27 : decode cX11_judgeBlock 27 = .ok (.iconst 0, 1) := by decide +kernel
theorem dX11_judgeBlock_28 : decode cX11_judgeBlock 28 = .ok (.sipush 255, 3) := by decide +kernel
theorem dX11_judgeBlock_31 : decode cX11_judgeBlock 31 = .ok (.invokevirtual 92, 3) := by decide +kernel
theorem dX11_judgeBlock_34 : decode cX11_judgeBlock 34 = .ok (.istore_n 2, 1) := by decide +kernel
theorem dX11_judgeBlock_35 : decode cX11_judgeBlock 35 = .ok (.aload_n 0, 1) := by decide +kernel
theorem dX11_judgeBlock_36 : decode cX11_judgeBlock 36 = .ok (.aload_n 0, 1) := by decide +kernel
theorem dX11_judgeBlock_37 : decode cX11_judgeBlock 37 = .ok (.getfield 76, 3) := by decide +kernel
theorem dX11_judgeBlock_40 : decode cX11_judgeBlock 40 = .ok (.ifCond .ne 10, 3) := by decide +kernel
theorem dX11_judgeBlock_43 : decode cX11_judgeBlock 43 = .ok (.aload_n 0, 1) := by decide +kernel
theorem dX11_judgeBlock_44 : decode cX11_judgeBlock 44 = .ok (.getfield 85, 3) := by decide +kernel
theorem dX11_judgeBlock_47 : decode cX11_judgeBlock 47 = .ok (.goto 7, 3) := by decide +kernel
theorem dX11_judgeBlock_50 : decode cX11_judgeBlock 50 = .ok (.aload_n 0, 1) := by decide +kernel
theorem dX11_judgeBlock_51 : decode cX11_judgeBlock 51 = .ok (.getfield 82, 3) := by decide +kernel
theorem dX11_judgeBlock_54 : decode cX11_judgeBlock 54 = .ok (.putfield 82, 3) := by decide +kernel
theorem dX11_judgeBlock_57 : decode cX11_judgeBlock 57 = .ok (.goto 57, 3) := by decide +kernel
theorem dX11_judgeBlock_60 : decode cX11_judgeBlock 60 = .ok (.iload_n 1, 1) := by decide +kernel
theorem dX11_judgeBlock_61 : decode cX11_judgeBlock 61 = .ok (.bipush 79, 2) := by decide +kernel
theorem dX11_judgeBlock_63 : decode cX11_judgeBlock 63 = .ok (.if_icmp .ne 10, 3) := by decide +kernel
theorem dX11_judgeBlock_66 : decode cX11_judgeBlock 66 = .ok (.aload_n 0, 1) := by decide +kernel
theorem dX11_judgeBlock_67 : decode cX11_judgeBlock 67 = .ok (.invokevirtual 106, 3) := by decide +kernel
theorem dX11_judgeBlock_70 : decode cX11_judgeBlock 70 = .ok (.goto 44, 3) := by decide +kernel
theorem dX11_judgeBlock_73 : decode cX11_judgeBlock 73 = .ok (.aload_n 0, 1) := by decide +kernel
theorem dX11_judgeBlock_74 : decode cX11_judgeBlock 74 = .ok (.iconst 3, 1) := by decide +kernel
theorem dX11_judgeBlock_75 : decode cX11_judgeBlock 75 = .ok (.bipush 12, 2) := by decide +kernel
theorem dX11_judgeBlock_77 : decode cX11_judgeBlock 77 = .ok (.invokevirtual 96, 3) := by decide +kernel
theorem dX11_judgeBlock_80 : decode cX11_judgeBlock 80 = .ok (.aload_n 0, 1) := by decide +kernel
theorem dX11_judgeBlock_81 : decode cX11_judgeBlock 81 = .ok (.iconst 0, 1) := by decide +kernel
theorem dX11_judgeBlock_82 : decode cX11_judgeBlock 82 = .ok (.bipush 20, 2) := by decide +kernel
theorem dX11_judgeBlock_84 : decode cX11_judgeBlock 84 = .ok (.invokevirtual 92, 3) := by decide +kernel
theorem dX11_judgeBlock_87 : decode cX11_judgeBlock 87 = .ok (.istore_n 2, 1) := by decide +kernel
theorem dX11_judgeBlock_88 : decode cX11_judgeBlock 88 = .ok (.aload_n 0, 1) := by decide +kernel
theorem dX11_judgeBlock_89 : decode cX11_judgeBlock 89 = .ok (.iconst 0, 1) := by decide +kernel
theorem dX11_judgeBlock_90 : decode cX11_judgeBlock 90 = .ok (.sipush 255, 3) := by decide +kernel
theorem dX11_judgeBlock_93 : decode cX11_judgeBlock 93 = .ok (.invokevirtual 92, 3) := by decide +kernel
theorem dX11_judgeBlock_96 : decode cX11_judgeBlock 96 = .ok (.istore_n 2, 1) := by decide +kernel
theorem dX11_judgeBlock_97 : decode cX11_judgeBlock 97 = .ok (.aload_n 0, 1) := by decide +kernel
theorem dX11_judgeBlock_98 : decode cX11_judgeBlock 98 = .ok (.iconst 0, 1) := by decide +kernel
theorem dX11_judgeBlock_99 : decode cX11_judgeBlock 99 = .ok (.sipush 255, 3) := by decide +kernel
theorem dX11_judgeBlock_102 : decode cX11_judgeBlock 102 = .ok (.invokevirtual 92, 3) := by decide +kernel
theorem dX11_judgeBlock_105 : decode cX11_judgeBlock 105 = .ok (.istore_n 2, 1) := by decide +kernel
theorem dX11_judgeBlock_106 : decode cX11_judgeBlock 106 = .ok (.aload_n 0, 1) := by decide +kernel
theorem dX11_judgeBlock_107 : decode cX11_judgeBlock 107 = .ok (.iconst 0, 1) := by decide +kernel
theorem dX11_judgeBlock_108 : decode cX11_judgeBlock 108 = .ok (.bipush 8, 2) := by decide +kernel
theorem dX11_judgeBlock_110 : decode cX11_judgeBlock 110 = .ok (.invokevirtual 92, 3) := by decide +kernel
theorem dX11_judgeBlock_113 : decode cX11_judgeBlock 113 = .ok (.istore_n 2, 1) := by decide +kernel
theorem dX11_judgeBlock_114 : decode cX11_judgeBlock 114 = .ok (.return_, 1) := by decide +kernel
theorem dX11_forget_0 : decode cX11_forget 0 = .ok (.iconst 0, 1) := by decide +kernel
theorem dX11_forget_1 : decode cX11_forget 1 = .ok (.istore_n 1, 1) := by decide +kernel
theorem dX11_forget_2 : decode cX11_forget 2 = .ok (.iload_n 1, 1) := by decide +kernel
theorem dX11_forget_3 : decode cX11_forget 3 = .ok (.bipush 21, 2) := by decide +kernel
theorem dX11_forget_5 : decode cX11_forget 5 = .ok (.if_icmp .ge 23, 3) := by decide +kernel
theorem dX11_forget_8 : decode cX11_forget 8 = .ok (.aload_n 0, 1) := by decide +kernel
theorem dX11_forget_9 : decode cX11_forget 9 = .ok (.getfield 20, 3) := by decide +kernel
theorem dX11_forget_12 : decode cX11_forget 12 = .ok (.iload_n 1, 1) := by decide +kernel
theorem dX11_forget_13 : decode cX11_forget 13 = .ok (.iconst 0, 1) := by decide +kernel
theorem dX11_forget_14 : decode cX11_forget 14 = .ok (.bastore, 1) := by decide +kernel
theorem dX11_forget_15 : decode cX11_forget 15 = .ok (.aload_n 0, 1) := by decide +kernel
theorem dX11_forget_16 : decode cX11_forget 16 = .ok (.getfield 24, 3) := by decide +kernel
theorem dX11_forget_19 : decode cX11_forget 19 = .ok (.iload_n 1, 1) := by decide +kernel
theorem dX11_forget_20 : decode cX11_forget 20 = .ok (.iconst 0, 1) := by decide +kernel
theorem dX11_forget_21 : decode cX11_forget 21 = .ok (.iastore, 1) := by decide +kernel
theorem dX11_forget_22 : decode cX11_forget 22 = .ok (.iinc 1 1, 3) := by decide +kernel
theorem dX11_forget_25 : decode cX11_forget 25 = .ok (.goto (-23), 3) := by decide +kernel
theorem dX11_forget_28 : decode cX11_forget 28 = .ok (.iconst 0, 1) := by decide +kernel
theorem dX11_forget_29 : decode cX11_forget 29 = .ok (.istore_n 1, 1) := by decide +kernel
theorem dX11_forget_30 : decode cX11_forget 30 = .ok (.iload_n 1, 1) := by decide +kernel
theorem dX11_forget_31 : decode cX11_forget 31 = .ok (.bipush 61, 2) := by decide +kernel
theorem dX11_forget_33 : decode cX11_forget 33 = .ok (.if_icmp .ge 16, 3) := by decide +kernel
theorem dX11_forget_36 : decode cX11_forget 36 = .ok (.aload_n 0, 1) := by decide +kernel
theorem dX11_forget_37 : decode cX11_forget 37 = .ok (.getfield 33, 3) := by decide +kernel
theorem dX11_forget_40 : decode cX11_forget 40 = .ok (.iload_n 1, 1) := by decide +kernel
theorem dX11_forget_41 : decode cX11_forget 41 = .ok (.iconst 0, 1) := by decide +kernel
theorem dX11_forget_42 : decode cX11_forget 42 = .ok (.iastore, 1) := by decide +kernel
theorem dX11_forget_43 : decode cX11_forget 43 = .ok (.iinc 1 1, 3) := by decide +kernel
theorem dX11_forget_46 : decode cX11_forget 46 = .ok (.goto (-16), 3) := by decide +kernel
theorem dX11_forget_49 : decode cX11_forget 49 = .ok (.iconst 0, 1) := by decide +kernel
theorem dX11_forget_50 : decode cX11_forget 50 = .ok (.istore_n 1, 1) := by decide +kernel
theorem dX11_forget_51 : decode cX11_forget 51 = .ok (.iload_n 1, 1) := by decide +kernel
theorem dX11_forget_52 : decode cX11_forget 52 = .ok (.bipush 61, 2) := by decide +kernel
theorem dX11_forget_54 : decode cX11_forget 54 = .ok (.if_icmp .ge 16, 3) := by decide +kernel
theorem dX11_forget_57 : decode cX11_forget 57 = .ok (.aload_n 0, 1) := by decide +kernel
theorem dX11_forget_58 : decode cX11_forget 58 = .ok (.getfield 36, 3) := by decide +kernel
theorem dX11_forget_61 : decode cX11_forget 61 = .ok (.iload_n 1, 1) := by decide +kernel
theorem dX11_forget_62 : decode cX11_forget 62 = .ok (.iconst 0, 1) := by decide +kernel
theorem dX11_forget_63 : decode cX11_forget 63 = .ok (.bastore, 1) := by decide +kernel
theorem dX11_forget_64 : decode cX11_forget 64 = .ok (.iinc 1 1, 3) := by decide +kernel
theorem dX11_forget_67 : decode cX11_forget 67 = .ok (.goto (-16), 3) := by decide +kernel
theorem dX11_forget_70 : decode cX11_forget 70 = .ok (.iconst 0, 1) := by decide +kernel
theorem dX11_forget_71 : decode cX11_forget 71 = .ok (.istore_n 1, 1) := by decide +kernel
theorem dX11_forget_72 : decode cX11_forget 72 = .ok (.iload_n 1, 1) := by decide +kernel
theorem dX11_forget_73 : decode cX11_forget 73 = .ok (.bipush 13, 2) := by decide +kernel
theorem dX11_forget_75 : decode cX11_forget 75 = .ok (.if_icmp .ge 16, 3) := by decide +kernel
theorem dX11_forget_78 : decode cX11_forget 78 = .ok (.aload_n 0, 1) := by decide +kernel
theorem dX11_forget_79 : decode cX11_forget 79 = .ok (.getfield 48, 3) := by decide +kernel
theorem dX11_forget_82 : decode cX11_forget 82 = .ok (.iload_n 1, 1) := by decide +kernel
theorem dX11_forget_83 : decode cX11_forget 83 = .ok (.iconst 0, 1) := by decide +kernel
theorem dX11_forget_84 : decode cX11_forget 84 = .ok (.bastore, 1) := by decide +kernel
theorem dX11_forget_85 : decode cX11_forget 85 = .ok (.iinc 1 1, 3) := by decide +kernel
theorem dX11_forget_88 : decode cX11_forget 88 = .ok (.goto (-16), 3) := by decide +kernel
theorem dX11_forget_91 : decode cX11_forget 91 = .ok (.aload_n 0, 1) := by decide +kernel
theorem dX11_forget_92 : decode cX11_forget 92 = .ok (.iconst 0, 1) := by decide +kernel
theorem dX11_forget_93 : decode cX11_forget 93 = .ok (.putfield 109, 3) := by decide +kernel
theorem dX11_forget_96 : decode cX11_forget 96 = .ok (.aload_n 0, 1) := by decide +kernel
theorem dX11_forget_97 : decode cX11_forget 97 = .ok (.iconst 0, 1) := by decide +kernel
theorem dX11_forget_98 : decode cX11_forget 98 = .ok (.putfield 112, 3) := by decide +kernel
theorem dX11_forget_101 : decode cX11_forget 101 = .ok (.aload_n 0, 1) := by decide +kernel
theorem dX11_forget_102 : decode cX11_forget 102 = .ok (.iconst 0, 1) := by decide +kernel
theorem dX11_forget_103 : decode cX11_forget 103 = .ok (.putfield 115, 3) := by decide +kernel
theorem dX11_forget_106 : decode cX11_forget 106 = .ok (.aload_n 0, 1) := by decide +kernel
theorem dX11_forget_107 : decode cX11_forget 107 = .ok (.iconst 0, 1) := by decide +kernel
theorem dX11_forget_108 : decode cX11_forget 108 = .ok (.putfield 118, 3) := by decide +kernel
theorem dX11_forget_111 : decode cX11_forget 111 = .ok (.iconst 0, 1) := by decide +kernel
theorem dX11_forget_112 : decode cX11_forget 112 = .ok (.istore_n 1, 1) := by decide +kernel
theorem dX11_forget_113 : decode cX11_forget 113 = .ok (.iload_n 1, 1) := by decide +kernel
theorem dX11_forget_114 : decode cX11_forget 114 = .ok (.sipush 781, 3) := by decide +kernel
theorem dX11_forget_117 : decode cX11_forget 117 = .ok (.if_icmp .ge 16, 3) := by decide +kernel
theorem dX11_forget_120 : decode cX11_forget 120 = .ok (.aload_n 0, 1) := by decide +kernel
theorem dX11_forget_121 : decode cX11_forget 121 = .ok (.getfield 57, 3) := by decide +kernel
theorem dX11_forget_124 : decode cX11_forget 124 = .ok (.iload_n 1, 1) := by decide +kernel
theorem dX11_forget_125 : decode cX11_forget 125 = .ok (.iconst 0, 1) := by decide +kernel
theorem dX11_forget_126 : decode cX11_forget 126 = .ok (.iastore, 1) := by decide +kernel
theorem dX11_forget_127 : decode cX11_forget 127 = .ok (.iinc 1 1, 3) := by decide +kernel
theorem dX11_forget_130 : decode cX11_forget 130 = .ok (.goto (-17), 3) := by decide +kernel
theorem dX11_forget_133 : decode cX11_forget 133 = .ok (.aload_n 0, 1) := by decide +kernel
theorem dX11_forget_134 : decode cX11_forget 134 = .ok (.getfield 57, 3) := by decide +kernel
theorem dX11_forget_137 : decode cX11_forget 137 = .ok (.iconst 1, 1) := by decide +kernel
theorem dX11_forget_138 : decode cX11_forget 138 = .ok (.iconst 1, 1) := by decide +kernel
theorem dX11_forget_139 : decode cX11_forget 139 = .ok (.iastore, 1) := by decide +kernel
theorem dX11_forget_140 : decode cX11_forget 140 = .ok (.aload_n 0, 1) := by decide +kernel
theorem dX11_forget_141 : decode cX11_forget 141 = .ok (.iconst 0, 1) := by decide +kernel
theorem dX11_forget_142 : decode cX11_forget 142 = .ok (.putfield 121, 3) := by decide +kernel
theorem dX11_forget_145 : decode cX11_forget 145 = .ok (.return_, 1) := by decide +kernel
theorem dX11_load_0 : decode cX11_load 0 = .ok (.iload_n 1, 1) := by decide +kernel
theorem dX11_load_1 : decode cX11_load 1 = .ok (.iconst 3, 1) := by decide +kernel
theorem dX11_load_2 : decode cX11_load 2 = .ok (.iadd, 1) := by decide +kernel
theorem dX11_load_3 : decode cX11_load 3 = .ok (.istore_n 2, 1) := by decide +kernel
theorem dX11_load_4 : decode cX11_load 4 = .ok (.aload_n 0, 1) := by decide +kernel
theorem dX11_load_5 : decode cX11_load 5 = .ok (.getfield 17, 3) := by decide +kernel
theorem dX11_load_8 : decode cX11_load 8 = .ok (.iload_n 1, 1) := by decide +kernel
theorem dX11_load_9 : decode cX11_load 9 = .ok (.iconst 1, 1) := by decide +kernel
theorem dX11_load_10 : decode cX11_load 10 = .ok (.iadd, 1) := by decide +kernel
theorem dX11_load_11 : decode cX11_load 11 = .ok (.iaload, 1) := by decide +kernel
theorem dX11_load_12 : decode cX11_load 12 = .ok (.bipush 8, 2) := by decide +kernel
theorem dX11_load_14 : decode cX11_load 14 = .ok (.ishl, 1) := by decide +kernel
theorem dX11_load_15 : decode cX11_load 15 = .ok (.aload_n 0, 1) := by decide +kernel
theorem dX11_load_16 : decode cX11_load 16 = .ok (.getfield 17, 3) := by decide +kernel
theorem dX11_load_19 : decode cX11_load 19 = .ok (.iload_n 1, 1) := by decide +kernel
theorem dX11_load_20 : decode cX11_load 20 = .ok (.iconst 2, 1) := by decide +kernel
theorem dX11_load_21 : decode cX11_load 21 = .ok (.iadd, 1) := by decide +kernel
theorem dX11_load_22 : decode cX11_load 22 = .ok (.iaload, 1) := by decide +kernel
theorem dX11_load_23 : decode cX11_load 23 = .ok (.ior, 1) := by decide +kernel
theorem dX11_load_24 : decode cX11_load 24 = .ok (.istore_n 3, 1) := by decide +kernel
theorem dX11_load_25 : decode cX11_load 25 = .ok (.aload_n 0, 1) := by decide +kernel
theorem dX11_load_26 : decode cX11_load 26 = .ok (.getfield 17, 3) := by decide +kernel
theorem dX11_load_29 : decode cX11_load 29 = .ok (.iload_n 2, 1) := by decide +kernel
theorem dX11_load_30 : decode cX11_load 30 = .ok (.iaload, 1) := by decide +kernel
theorem dX11_load_31 : decode cX11_load 31 = .ok (.istore 4, 2) := by decide +kernel
theorem dX11_load_33 : decode cX11_load 33 = .ok (.aload_n 0, 1) := by decide +kernel
theorem dX11_load_34 : decode cX11_load 34 = .ok (.getfield 17, 3) := by decide +kernel
theorem dX11_load_37 : decode cX11_load 37 = .ok (.iload_n 1, 1) := by decide +kernel
theorem dX11_load_38 : decode cX11_load 38 = .ok (.iaload, 1) := by decide +kernel
theorem dX11_load_39 : decode cX11_load 39 = .ok (.tableswitch 303 79 83 #[203, 303, 303, 33, 170], 33) := by decide +kernel
theorem dX11_load_72 : decode cX11_load 72 = .ok (.aload_n 0, 1) := by decide +kernel
theorem dX11_load_73 : decode cX11_load 73 = .ok (.dup, 1) := by decide +kernel
theorem dX11_load_74 : decode cX11_load 74 = .ok (.getfield 109, 3) := by decide +kernel
theorem dX11_load_77 : decode cX11_load 77 = .ok (.iconst 1, 1) := by decide +kernel
theorem dX11_load_78 : decode cX11_load 78 = .ok (.iadd, 1) := by decide +kernel
theorem dX11_load_79 : decode cX11_load 79 = .ok (.putfield 109, 3) := by decide +kernel
theorem dX11_load_82 : decode cX11_load 82 = .ok (.aload_n 0, 1) := by decide +kernel
theorem dX11_load_83 : decode cX11_load 83 = .ok (.getfield 20, 3) := by decide +kernel
theorem dX11_load_86 : decode cX11_load 86 = .ok (.iload 4, 2) := by decide +kernel
theorem dX11_load_88 : decode cX11_load 88 = .ok (.iconst 1, 1) := by decide +kernel
theorem dX11_load_89 : decode cX11_load 89 = .ok (.bastore, 1) := by decide +kernel
theorem dX11_load_90 : decode cX11_load 90 = .ok (.aload_n 0, 1) := by decide +kernel
theorem dX11_load_91 : decode cX11_load 91 = .ok (.getfield 24, 3) := by decide +kernel
theorem dX11_load_94 : decode cX11_load 94 = .ok (.iload 4, 2) := by decide +kernel
theorem dX11_load_96 : decode cX11_load 96 = .ok (.aload_n 0, 1) := by decide +kernel
theorem dX11_load_97 : decode cX11_load 97 = .ok (.getfield 17, 3) := by decide +kernel
theorem dX11_load_100 : decode cX11_load 100 = .ok (.iload_n 2, 1) := by decide +kernel
theorem dX11_load_101 : decode cX11_load 101 = .ok (.iconst 1, 1) := by decide +kernel
theorem dX11_load_102 : decode cX11_load 102 = .ok (.iadd, 1) := by decide +kernel
theorem dX11_load_103 : decode cX11_load 103 = .ok (.iaload, 1) := by decide +kernel
theorem dX11_load_104 : decode cX11_load 104 = .ok (.iastore, 1) := by decide +kernel
theorem dX11_load_105 : decode cX11_load 105 = .ok (.iconst 0, 1) := by decide +kernel
theorem dX11_load_106 : decode cX11_load 106 = .ok (.istore 5, 2) := by decide +kernel
theorem dX11_load_108 : decode cX11_load 108 = .ok (.iload 5, 2) := by decide +kernel
theorem dX11_load_110 : decode cX11_load 110 = .ok (.aload_n 0, 1) := by decide +kernel
theorem dX11_load_111 : decode cX11_load 111 = .ok (.getfield 24, 3) := by decide +kernel
theorem dX11_load_114 : decode cX11_load 114 = .ok (.iload 4, 2) := by decide +kernel
theorem dX11_load_116 : decode cX11_load 116 = .ok (.iaload, 1) := by decide +kernel
theorem dX11_load_117 : decode cX11_load 117 = .ok (.if_icmp .ge 89, 3) := by decide +kernel
theorem dX11_load_120 : decode cX11_load 120 = .ok (.iconst 0, 1) := by decide +kernel
theorem dX11_load_121 : decode cX11_load 121 = .ok (.istore 6, 2) := by decide +kernel
theorem dX11_load_123 : decode cX11_load 123 = .ok (.iload 6, 2) := by decide +kernel
theorem dX11_load_125 : decode cX11_load 125 = .ok (.iconst 4, 1) := by decide +kernel
theorem dX11_load_126 : decode cX11_load 126 = .ok (.if_icmp .ge 43, 3) := by decide +kernel
theorem dX11_load_129 : decode cX11_load 129 = .ok (.aload_n 0, 1) := by decide +kernel
theorem dX11_load_130 : decode cX11_load 130 = .ok (.getfield 27, 3) := by decide +kernel
theorem dX11_load_133 : decode cX11_load 133 = .ok (.iload 4, 2) := by decide +kernel
theorem dX11_load_135 : decode cX11_load 135 = .ok (.bipush 16, 2) := by decide +kernel
theorem dX11_load_137 : decode cX11_load 137 = .ok (.imul, 1) := by decide +kernel
theorem dX11_load_138 : decode cX11_load 138 = .ok (.iload 5, 2) := by decide +kernel
theorem dX11_load_140 : decode cX11_load 140 = .ok (.iadd, 1) := by decide +kernel
theorem dX11_load_141 : decode cX11_load 141 = .ok (.iconst 4, 1) := by decide +kernel
theorem dX11_load_142 : decode cX11_load 142 = .ok (.imul, 1) := by decide +kernel
theorem dX11_load_143 : decode cX11_load 143 = .ok (.iload 6, 2) := by decide +kernel
theorem dX11_load_145 : decode cX11_load 145 = .ok (.iadd, 1) := by decide +kernel
theorem dX11_load_146 : decode cX11_load 146 = .ok (.aload_n 0, 1) := by decide +kernel
theorem dX11_load_147 : decode cX11_load 147 = .ok (.getfield 17, 3) := by decide +kernel
theorem dX11_load_150 : decode cX11_load 150 = .ok (.iload_n 2, 1) := by decide +kernel
theorem dX11_load_151 : decode cX11_load 151 = .ok (.iconst 2, 1) := by decide +kernel
theorem dX11_load_152 : decode cX11_load 152 = .ok (.iadd, 1) := by decide +kernel
theorem dX11_load_153 : decode cX11_load 153 = .ok (.iconst 5, 1) := by decide +kernel
theorem dX11_load_154 : decode cX11_load 154 = .ok (.iload 5, 2) := by decide +kernel
theorem dX11_load_156 : decode cX11_load 156 = .ok (.imul, 1) := by decide +kernel
theorem dX11_load_157 : decode cX11_load 157 = .ok (.iadd, 1) := by decide +kernel
theorem dX11_load_158 : decode cX11_load 158 = .ok (.iload 6, 2) := by decide +kernel
theorem dX11_load_160 : decode cX11_load 160 = .ok (.iadd, 1) := by decide +kernel
theorem dX11_load_161 : decode cX11_load 161 = .ok (.iaload, 1) := by decide +kernel
theorem dX11_load_162 : decode cX11_load 162 = .ok (.iastore, 1) := by decide +kernel
theorem dX11_load_163 : decode cX11_load 163 = .ok (.iinc 6 1, 3) := by decide +kernel
theorem dX11_load_166 : decode cX11_load 166 = .ok (.goto (-43), 3) := by decide +kernel
theorem dX11_load_169 : decode cX11_load 169 = .ok (.aload_n 0, 1) := by decide +kernel
theorem dX11_load_170 : decode cX11_load 170 = .ok (.getfield 57, 3) := by decide +kernel
theorem dX11_load_173 : decode cX11_load 173 = .ok (.sipush 445, 3) := by decide +kernel
theorem dX11_load_176 : decode cX11_load 176 = .ok (.iload 4, 2) := by decide +kernel
theorem dX11_load_178 : decode cX11_load 178 = .ok (.bipush 16, 2) := by decide +kernel
theorem dX11_load_180 : decode cX11_load 180 = .ok (.imul, 1) := by decide +kernel
theorem dX11_load_181 : decode cX11_load 181 = .ok (.iadd, 1) := by decide +kernel
theorem dX11_load_182 : decode cX11_load 182 = .ok (.iload 5, 2) := by decide +kernel
theorem dX11_load_184 : decode cX11_load 184 = .ok (.iadd, 1) := by decide +kernel
theorem dX11_load_185 : decode cX11_load 185 = .ok (.aload_n 0, 1) := by decide +kernel
theorem dX11_load_186 : decode cX11_load 186 = .ok (.getfield 17, 3) := by decide +kernel
theorem dX11_load_189 : decode cX11_load 189 = .ok (.iload_n 2, 1) := by decide +kernel
theorem dX11_load_190 : decode cX11_load 190 = .ok (.bipush 6, 2) := by decide +kernel
theorem dX11_load_192 : decode cX11_load 192 = .ok (.iadd, 1) := by decide +kernel
theorem dX11_load_193 : decode cX11_load 193 = .ok (.iconst 5, 1) := by decide +kernel
theorem dX11_load_194 : decode cX11_load 194 = .ok (.iload 5, 2) := by decide +kernel
theorem dX11_load_196 : decode cX11_load 196 = .ok (.imul, 1) := by decide +kernel
theorem dX11_load_197 : decode cX11_load 197 = .ok (.iadd, 1) := by decide +kernel
theorem dX11_load_198 : decode cX11_load 198 = .ok (.iaload, 1) := by decide +kernel
theorem dX11_load_199 : decode cX11_load 199 = .ok (.iastore, 1) := by decide +kernel
theorem dX11_load_200 : decode cX11_load 200 = .ok (.iinc 5 1, 3) := by decide +kernel
theorem dX11_load_203 : decode cX11_load 203 = .ok (.goto (-95), 3) := by decide +kernel
theorem dX11_load_206 : decode cX11_load 206 = .ok (.goto 197, 3) := by decide +kernel
theorem dX11_load_209 : decode cX11_load 209 = .ok (.aload_n 0, 1) := by decide +kernel
theorem dX11_load_210 : decode cX11_load 210 = .ok (.dup, 1) := by decide +kernel
theorem dX11_load_211 : decode cX11_load 211 = .ok (.getfield 112, 3) := by decide +kernel
theorem dX11_load_214 : decode cX11_load 214 = .ok (.iconst 1, 1) := by decide +kernel
theorem dX11_load_215 : decode cX11_load 215 = .ok (.iadd, 1) := by decide +kernel
theorem dX11_load_216 : decode cX11_load 216 = .ok (.putfield 112, 3) := by decide +kernel
theorem dX11_load_219 : decode cX11_load 219 = .ok (.aload_n 0, 1) := by decide +kernel
theorem dX11_load_220 : decode cX11_load 220 = .ok (.getfield 30, 3) := by decide +kernel
theorem dX11_load_223 : decode cX11_load 223 = .ok (.iload 4, 2) := by decide +kernel
theorem dX11_load_225 : decode cX11_load 225 = .ok (.iload_n 2, 1) := by decide +kernel
theorem dX11_load_226 : decode cX11_load 226 = .ok (.iconst 1, 1) := by decide +kernel
theorem dX11_load_227 : decode cX11_load 227 = .ok (.iadd, 1) := by decide +kernel
theorem dX11_load_228 : decode cX11_load 228 = .ok (.iastore, 1) := by decide +kernel
theorem dX11_load_229 : decode cX11_load 229 = .ok (.aload_n 0, 1) := by decide +kernel
theorem dX11_load_230 : decode cX11_load 230 = .ok (.getfield 33, 3) := by decide +kernel
theorem dX11_load_233 : decode cX11_load 233 = .ok (.iload 4, 2) := by decide +kernel
theorem dX11_load_235 : decode cX11_load 235 = .ok (.iload_n 3, 1) := by decide +kernel
theorem dX11_load_236 : decode cX11_load 236 = .ok (.iconst 1, 1) := by decide +kernel
theorem dX11_load_237 : decode cX11_load 237 = .ok (.isub, 1) := by decide +kernel
theorem dX11_load_238 : decode cX11_load 238 = .ok (.iastore, 1) := by decide +kernel
theorem dX11_load_239 : decode cX11_load 239 = .ok (.goto 164, 3) := by decide +kernel
theorem dX11_load_242 : decode cX11_load 242 = .ok (.aload_n 0, 1) := by decide +kernel
theorem dX11_load_243 : decode cX11_load 243 = .ok (.dup, 1) := by decide +kernel
theorem dX11_load_244 : decode cX11_load 244 = .ok (.getfield 115, 3) := by decide +kernel
theorem dX11_load_247 : decode cX11_load 247 = .ok (.iconst 1, 1) := by decide +kernel
theorem dX11_load_248 : decode cX11_load 248 = .ok (.iadd, 1) := by decide +kernel
theorem dX11_load_249 : decode cX11_load 249 = .ok (.putfield 115, 3) := by decide +kernel
theorem dX11_load_252 : decode cX11_load 252 = .ok (.aload_n 0, 1) := by decide +kernel
theorem dX11_load_253 : decode cX11_load 253 = .ok (.getfield 36, 3) := by decide +kernel
theorem dX11_load_256 : decode cX11_load 256 = .ok (.iload 4, 2) := by decide +kernel
theorem dX11_load_258 : decode cX11_load 258 = .ok (.iconst 1, 1) := by decide +kernel
theorem dX11_load_259 : decode cX11_load 259 = .ok (.bastore, 1) := by decide +kernel
theorem dX11_load_260 : decode cX11_load 260 = .ok (.iconst 0, 1) := by decide +kernel
theorem dX11_load_261 : decode cX11_load 261 = .ok (.istore 5, 2) := by decide +kernel
theorem dX11_load_263 : decode cX11_load 263 = .ok (.iload 5, 2) := by decide +kernel
theorem dX11_load_265 : decode cX11_load 265 = .ok (.iconst 3, 1) := by decide +kernel
theorem dX11_load_266 : decode cX11_load 266 = .ok (.if_icmp .ge 32, 3) := by decide +kernel
theorem dX11_load_269 : decode cX11_load 269 = .ok (.aload_n 0, 1) := by decide +kernel
theorem dX11_load_270 : decode cX11_load 270 = .ok (.getfield 39, 3) := by decide +kernel
theorem dX11_load_273 : decode cX11_load 273 = .ok (.iconst 3, 1) := by decide +kernel
theorem dX11_load_274 : decode cX11_load 274 = .ok (.iload 4, 2) := by decide +kernel
theorem dX11_load_276 : decode cX11_load 276 = .ok (.imul, 1) := by decide +kernel
theorem dX11_load_277 : decode cX11_load 277 = .ok (.iload 5, 2) := by decide +kernel
theorem dX11_load_279 : decode cX11_load 279 = .ok (.iadd, 1) := by decide +kernel
theorem dX11_load_280 : decode cX11_load 280 = .ok (.aload_n 0, 1) := by decide +kernel
theorem dX11_load_281 : decode cX11_load 281 = .ok (.getfield 17, 3) := by decide +kernel
theorem dX11_load_284 : decode cX11_load 284 = .ok (.iload_n 2, 1) := by decide +kernel
theorem dX11_load_285 : decode cX11_load 285 = .ok (.iconst 1, 1) := by decide +kernel
theorem dX11_load_286 : decode cX11_load 286 = .ok (.iadd, 1) := by decide +kernel
theorem dX11_load_287 : decode cX11_load 287 = .ok (.iload 5, 2) := by decide +kernel
theorem dX11_load_289 : decode cX11_load 289 = .ok (.iadd, 1) := by decide +kernel
theorem dX11_load_290 : decode cX11_load 290 = .ok (.iaload, 1) := by decide +kernel
theorem dX11_load_291 : decode cX11_load 291 = .ok (.iastore, 1) := by decide +kernel
theorem dX11_load_292 : decode cX11_load 292 = .ok (.iinc 5 1, 3) := by decide +kernel
theorem dX11_load_295 : decode cX11_load 295 = .ok (.goto (-32), 3) := by decide +kernel
theorem dX11_load_298 : decode cX11_load 298 = .ok (.aload_n 0, 1) := by decide +kernel
theorem dX11_load_299 : decode cX11_load 299 = .ok (.getfield 57, 3) := by decide +kernel
theorem dX11_load_302 : decode cX11_load 302 = .ok (.sipush 323, 3) := by decide +kernel
theorem dX11_load_305 : decode cX11_load 305 = .ok (.iload 4, 2) := by decide +kernel
theorem dX11_load_307 : decode cX11_load 307 = .ok (.iadd, 1) := by decide +kernel
theorem dX11_load_308 : decode cX11_load 308 = .ok (.aload_n 0, 1) := by decide +kernel
theorem dX11_load_309 : decode cX11_load 309 = .ok (.getfield 17, 3) := by decide +kernel
theorem dX11_load_312 : decode cX11_load 312 = .ok (.iload_n 2, 1) := by decide +kernel
theorem dX11_load_313 : decode cX11_load 313 = .ok (.iconst 4, 1) := by decide +kernel
theorem dX11_load_314 : decode cX11_load 314 = .ok (.iadd, 1) := by decide +kernel
theorem dX11_load_315 : decode cX11_load 315 = .ok (.iaload, 1) := by decide +kernel
theorem dX11_load_316 : decode cX11_load 316 = .ok (.iastore, 1) := by decide +kernel
theorem dX11_load_317 : decode cX11_load 317 = .ok (.aload_n 0, 1) := by decide +kernel
theorem dX11_load_318 : decode cX11_load 318 = .ok (.getfield 42, 3) := by decide +kernel
theorem dX11_load_321 : decode cX11_load 321 = .ok (.iload 4, 2) := by decide +kernel
theorem dX11_load_323 : decode cX11_load 323 = .ok (.iload_n 2, 1) := by decide +kernel
theorem dX11_load_324 : decode cX11_load 324 = .ok (.iconst 5, 1) := by decide +kernel
theorem dX11_load_325 : decode cX11_load 325 = .ok (.iadd, 1) := by decide +kernel
theorem dX11_load_326 : decode cX11_load 326 = .ok (.iastore, 1) := by decide +kernel
theorem dX11_load_327 : decode cX11_load 327 = .ok (.aload_n 0, 1) := by decide +kernel
theorem dX11_load_328 : decode cX11_load 328 = .ok (.getfield 45, 3) := by decide +kernel
theorem dX11_load_331 : decode cX11_load 331 = .ok (.iload 4, 2) := by decide +kernel
theorem dX11_load_333 : decode cX11_load 333 = .ok (.iload_n 3, 1) := by decide +kernel
theorem dX11_load_334 : decode cX11_load 334 = .ok (.iconst 5, 1) := by decide +kernel
theorem dX11_load_335 : decode cX11_load 335 = .ok (.isub, 1) := by decide +kernel
theorem dX11_load_336 : decode cX11_load 336 = .ok (.iconst 2, 1) := by decide +kernel
theorem dX11_load_337 : decode cX11_load 337 = .ok (.idiv, 1) := by decide +kernel
theorem dX11_load_338 : decode cX11_load 338 = .ok (.iastore, 1) := by decide +kernel
theorem dX11_load_339 : decode cX11_load 339 = .ok (.goto 64, 3) := by decide +kernel
theorem dX11_load_342 : decode cX11_load 342 = .ok (.aload_n 0, 1) := by decide +kernel
theorem dX11_load_343 : decode cX11_load 343 = .ok (.dup, 1) := by decide +kernel
theorem dX11_load_344 : decode cX11_load 344 = .ok (.getfield 118, 3) := by decide +kernel
theorem dX11_load_347 : decode cX11_load 347 = .ok (.iconst 1, 1) := by decide +kernel
theorem dX11_load_348 : decode cX11_load 348 = .ok (.iadd, 1) := by decide +kernel
theorem dX11_load_349 : decode cX11_load 349 = .ok (.putfield 118, 3) := by decide +kernel
theorem dX11_load_352 : decode cX11_load 352 = .ok (.aload_n 0, 1) := by decide +kernel
theorem dX11_load_353 : decode cX11_load 353 = .ok (.getfield 48, 3) := by decide +kernel
theorem dX11_load_356 : decode cX11_load 356 = .ok (.iload 4, 2) := by decide +kernel
theorem dX11_load_358 : decode cX11_load 358 = .ok (.iconst 1, 1) := by decide +kernel
theorem dX11_load_359 : decode cX11_load 359 = .ok (.bastore, 1) := by decide +kernel
theorem dX11_load_360 : decode cX11_load 360 = .ok (.iconst 0, 1) := by decide +kernel
theorem dX11_load_361 : decode cX11_load 361 = .ok (.istore 5, 2) := by decide +kernel
theorem dX11_load_363 : decode cX11_load 363 = .ok (.iload 5, 2) := by decide +kernel
theorem dX11_load_365 : decode cX11_load 365 = .ok (.iconst 4, 1) := by decide +kernel
theorem dX11_load_366 : decode cX11_load 366 = .ok (.if_icmp .ge 37, 3) := by decide +kernel
theorem dX11_load_369 : decode cX11_load 369 = .ok (.aload_n 0, 1) := by decide +kernel
theorem dX11_load_370 : decode cX11_load 370 = .ok (.getfield 57, 3) := by decide +kernel
theorem dX11_load_373 : decode cX11_load 373 = .ok (.sipush 232, 3) := by decide +kernel
theorem dX11_load_376 : decode cX11_load 376 = .ok (.bipush 7, 2) := by decide +kernel
theorem dX11_load_378 : decode cX11_load 378 = .ok (.iload 4, 2) := by decide +kernel
theorem dX11_load_380 : decode cX11_load 380 = .ok (.imul, 1) := by decide +kernel
theorem dX11_load_381 : decode cX11_load 381 = .ok (.iadd, 1) := by decide +kernel
theorem dX11_load_382 : decode cX11_load 382 = .ok (.iload 5, 2) := by decide +kernel
theorem dX11_load_384 : decode cX11_load 384 = .ok (.iadd, 1) := by decide +kernel
theorem dX11_load_385 : decode cX11_load 385 = .ok (.aload_n 0, 1) := by decide +kernel
theorem dX11_load_386 : decode cX11_load 386 = .ok (.getfield 17, 3) := by decide +kernel
theorem dX11_load_389 : decode cX11_load 389 = .ok (.iload_n 2, 1) := by decide +kernel
theorem dX11_load_390 : decode cX11_load 390 = .ok (.iconst 1, 1) := by decide +kernel
theorem dX11_load_391 : decode cX11_load 391 = .ok (.iadd, 1) := by decide +kernel
theorem dX11_load_392 : decode cX11_load 392 = .ok (.iload 5, 2) := by decide +kernel
theorem dX11_load_394 : decode cX11_load 394 = .ok (.iadd, 1) := by decide +kernel
theorem dX11_load_395 : decode cX11_load 395 = .ok (.iaload, 1) := by decide +kernel
theorem dX11_load_396 : decode cX11_load 396 = .ok (.iastore, 1) := by decide +kernel
theorem dX11_load_397 : decode cX11_load 397 = .ok (.iinc 5 1, 3) := by decide +kernel
theorem dX11_load_400 : decode cX11_load 400 = .ok (.goto (-37), 3) := by decide +kernel
theorem dX11_load_403 : decode cX11_load 403 = .ok (.return_, 1) := by decide +kernel
theorem dX11_play_0 : decode cX11_play 0 = .ok (.aload_n 0, 1) := by decide +kernel
theorem dX11_play_1 : decode cX11_play 1 = .ok (.iconst 0, 1) := by decide +kernel
theorem dX11_play_2 : decode cX11_play 2 = .ok (.putfield 3, 3) := by decide +kernel
theorem dX11_play_5 : decode cX11_play 5 = .ok (.aload_n 0, 1) := by decide +kernel
theorem dX11_play_6 : decode cX11_play 6 = .ok (.getfield 69, 3) := by decide +kernel
theorem dX11_play_9 : decode cX11_play 9 = .ok (.istore_n 1, 1) := by decide +kernel
theorem dX11_play_10 : decode cX11_play 10 = .ok (.aload_n 0, 1) := by decide +kernel
theorem dX11_play_11 : decode cX11_play 11 = .ok (.iconst 0, 1) := by decide +kernel
theorem dX11_play_12 : decode cX11_play 12 = .ok (.putfield 69, 3) := by decide +kernel
theorem dX11_play_15 : decode cX11_play 15 = .ok (.aload_n 0, 1) := by decide +kernel
theorem dX11_play_16 : decode cX11_play 16 = .ok (.iload_n 1, 1) := by decide +kernel
theorem dX11_play_17 : decode cX11_play 17 = .ok (.invokevirtual 125, 3) := by decide +kernel
theorem dX11_play_20 : decode cX11_play 20 = .ok (.istore_n 2, 1) := by decide +kernel
theorem dX11_play_21 : decode cX11_play 21 = .ok (.aload_n 0, 1) := by decide +kernel
theorem dX11_play_22 : decode cX11_play 22 = .ok (.aload_n 0, 1) := by decide +kernel
theorem dX11_play_23 : decode cX11_play 23 = .ok (.getfield 76, 3) := by decide +kernel
theorem dX11_play_26 : decode cX11_play 26 = .ok (.putfield 129, 3) := by decide +kernel
theorem dX11_play_29 : decode cX11_play 29 = .ok (.aload_n 0, 1) := by decide +kernel
theorem dX11_play_30 : decode cX11_play 30 = .ok (.aload_n 0, 1) := by decide +kernel
theorem dX11_play_31 : decode cX11_play 31 = .ok (.getfield 76, 3) := by decide +kernel
theorem dX11_play_34 : decode cX11_play 34 = .ok (.ifCond .ne 7, 3) := by decide +kernel
theorem dX11_play_37 : decode cX11_play 37 = .ok (.iconst 0, 1) := by decide +kernel
theorem dX11_play_38 : decode cX11_play 38 = .ok (.goto 7, 3) := by decide +kernel
theorem dX11_play_41 : decode cX11_play 41 = .ok (.aload_n 0, 1) := by decide +kernel
theorem dX11_play_42 : decode cX11_play 42 = .ok (.getfield 79, 3) := by decide +kernel
theorem dX11_play_45 : decode cX11_play 45 = .ok (.putfield 132, 3) := by decide +kernel
theorem dX11_play_48 : decode cX11_play 48 = .ok (.aload_n 0, 1) := by decide +kernel
theorem dX11_play_49 : decode cX11_play 49 = .ok (.getfield 76, 3) := by decide +kernel
theorem dX11_play_52 : decode cX11_play 52 = .ok (.ifCond .eq 8, 3) := by decide +kernel
theorem dX11_play_55 : decode cX11_play 55 = .ok (.aload_n 0, 1) := by decide +kernel
theorem dX11_play_56 : decode cX11_play 56 = .ok (.invokevirtual 135, 3) := by decide +kernel
theorem dX11_play_59 : decode cX11_play 59 = .ok (.ireturn, 1) := by decide +kernel
theorem dX11_play_60 : decode cX11_play 60 = .ok (.iconst 0, 1) := by decide +kernel
theorem dX11_play_61 : decode cX11_play 61 = .ok (.istore_n 3, 1) := by decide +kernel
theorem dX11_play_62 : decode cX11_play 62 = .ok (.iload_n 3, 1) := by decide +kernel
theorem dX11_play_63 : decode cX11_play 63 = .ok (.iload_n 1, 1) := by decide +kernel
theorem dX11_play_64 : decode cX11_play 64 = .ok (.if_icmp .ge 21, 3) := by decide +kernel
theorem dX11_play_67 : decode cX11_play 67 = .ok (.aload_n 0, 1) := by decide +kernel
theorem dX11_play_68 : decode cX11_play 68 = .ok (.getfield 17, 3) := by decide +kernel
theorem dX11_play_71 : decode cX11_play 71 = .ok (.iload_n 3, 1) := by decide +kernel
theorem dX11_play_72 : decode cX11_play 72 = .ok (.aload_n 0, 1) := by decide +kernel
theorem dX11_play_73 : decode cX11_play 73 = .ok (.getfield 13, 3) := by decide +kernel
theorem dX11_play_76 : decode cX11_play 76 = .ok (.iload_n 3, 1) := by decide +kernel
theorem dX11_play_77 : decode cX11_play 77 = .ok (.iaload, 1) := by decide +kernel
theorem dX11_play_78 : decode cX11_play 78 = .ok (.iastore, 1) := by decide +kernel
theorem dX11_play_79 : decode cX11_play 79 = .ok (.iinc 3 1, 3) := by decide +kernel
theorem dX11_play_82 : decode cX11_play 82 = .ok (.goto (-20), 3) := by decide +kernel
theorem dX11_play_85 : decode cX11_play 85 = .ok (.aload_n 0, 1) := by decide +kernel
theorem dX11_play_86 : decode cX11_play 86 = .ok (.iload_n 1, 1) := by decide +kernel
theorem dX11_play_87 : decode cX11_play 87 = .ok (.putfield 139, 3) := by decide +kernel
theorem dX11_play_90 : decode cX11_play 90 = .ok (.aload_n 0, 1) := by decide +kernel
theorem dX11_play_91 : decode cX11_play 91 = .ok (.invokevirtual 142, 3) := by decide +kernel
theorem dX11_play_94 : decode cX11_play 94 = .ok (.iconst 4, 1) := by decide +kernel
theorem dX11_play_95 : decode cX11_play 95 = .ok (.istore_n 3, 1) := by decide +kernel
theorem dX11_play_96 : decode cX11_play 96 = .ok (.iload_n 3, 1) := by decide +kernel
theorem dX11_play_97 : decode cX11_play 97 = .ok (.aload_n 0, 1) := by decide +kernel
theorem dX11_play_98 : decode cX11_play 98 = .ok (.getfield 139, 3) := by decide +kernel
theorem dX11_play_101 : decode cX11_play 101 = .ok (.if_icmp .ge 36, 3) := by decide +kernel
theorem dX11_play_104 : decode cX11_play 104 = .ok (.aload_n 0, 1) := by decide +kernel
theorem dX11_play_105 : decode cX11_play 105 = .ok (.iload_n 3, 1) := by decide +kernel
theorem dX11_play_106 : decode cX11_play 106 = .ok (.invokevirtual 145, 3) := by decide +kernel
theorem dX11_play_109 : decode cX11_play 109 = .ok (.iload_n 3, 1) := by decide +kernel
theorem dX11_play_110 : decode cX11_play 110 = .ok (.iconst 3, 1) := by decide +kernel
theorem dX11_play_111 : decode cX11_play 111 = .ok (.aload_n 0, 1) := by decide +kernel
theorem dX11_play_112 : decode cX11_play 112 = .ok (.getfield 17, 3) := by decide +kernel
theorem dX11_play_115 : decode cX11_play 115 = .ok (.iload_n 3, 1) := by decide +kernel
theorem dX11_play_116 : decode cX11_play 116 = .ok (.iconst 1, 1) := by decide +kernel
theorem dX11_play_117 : decode cX11_play 117 = .ok (.iadd, 1) := by decide +kernel
theorem dX11_play_118 : decode cX11_play 118 = .ok (.iaload, 1) := by decide +kernel
theorem dX11_play_119 : decode cX11_play 119 = .ok (.bipush 8, 2) := by decide +kernel
theorem dX11_play_121 : decode cX11_play 121 = .ok (.ishl, 1) := by decide +kernel
theorem dX11_play_122 : decode cX11_play 122 = .ok (.aload_n 0, 1) := by decide +kernel
theorem dX11_play_123 : decode cX11_play 123 = .ok (.getfield 17, 3) := by decide +kernel
theorem dX11_play_126 : decode cX11_play 126 = .ok (.iload_n 3, 1) := by decide +kernel
theorem dX11_play_127 : decode cX11_play 127 = .ok (.iconst 2, 1) := by decide +kernel
theorem dX11_play_128 : decode cX11_play 128 = .ok (.iadd, 1) := by decide +kernel
theorem dX11_play_129 : decode cX11_play 129 = .ok (.iaload, 1) := by decide +kernel
theorem dX11_play_130 : decode cX11_play 130 = .ok (.ior, 1) := by decide +kernel
theorem dX11_play_131 : decode cX11_play 131 = .ok (.iadd, 1) := by decide +kernel
theorem dX11_play_132 : decode cX11_play 132 = .ok (.iadd, 1) := by decide +kernel
theorem dX11_play_133 : decode cX11_play 133 = .ok (.istore_n 3, 1) := by decide +kernel
theorem dX11_play_134 : decode cX11_play 134 = .ok (.goto (-38), 3) := by decide +kernel
theorem dX11_play_137 : decode cX11_play 137 = .ok (.iload_n 2, 1) := by decide +kernel
theorem dX11_play_138 : decode cX11_play 138 = .ok (.ireturn, 1) := by decide +kernel
theorem dX11_fault_0 : decode cX11_fault 0 = .ok (.aload_n 0, 1) := by decide +kernel
theorem dX11_fault_1 : decode cX11_fault 1 = .ok (.iconst 0, 1) := by decide +kernel
theorem dX11_fault_2 : decode cX11_fault 2 = .ok (.putfield 3, 3) := by decide +kernel
theorem dX11_fault_5 : decode cX11_fault 5 = .ok (.iload_n 1, 1) := by decide +kernel
theorem dX11_fault_6 : decode cX11_fault 6 = .ok (.ifCond .ne 10, 3) := by decide +kernel
theorem dX11_fault_9 : decode cX11_fault 9 = .ok (.aload_n 0, 1) := by decide +kernel
theorem dX11_fault_10 : decode cX11_fault 10 = .ok (.getfield 129, 3) := by decide +kernel
theorem dX11_fault_13 : decode cX11_fault 13 = .ok (.goto 16, 3) := by decide +kernel
theorem dX11_fault_16 : decode cX11_fault 16 = .ok (.iload_n 1, 1) := by decide +kernel
theorem dX11_fault_17 : decode cX11_fault 17 = .ok (.iconst 1, 1) := by decide +kernel
theorem dX11_fault_18 : decode cX11_fault 18 = .ok (.if_icmp .ne 10, 3) := by decide +kernel
theorem dX11_fault_21 : decode cX11_fault 21 = .ok (.aload_n 0, 1) := by decide +kernel
theorem dX11_fault_22 : decode cX11_fault 22 = .ok (.getfield 132, 3) := by decide +kernel
theorem dX11_fault_25 : decode cX11_fault 25 = .ok (.goto 4, 3) := by decide +kernel
theorem dX11_fault_28 : decode cX11_fault 28 = .ok (.iconst (-1), 1) := by decide +kernel
theorem dX11_fault_29 : decode cX11_fault 29 = .ok (.ireturn, 1) := by decide +kernel
theorem dX11_of_0 : decode cX11_of 0 = .ok (.aload_n 0, 1) := by decide +kernel
theorem dX11_of_1 : decode cX11_of 1 = .ok (.getfield 57, 3) := by decide +kernel
theorem dX11_of_4 : decode cX11_of 4 = .ok (.bipush 70, 2) := by decide +kernel
theorem dX11_of_6 : decode cX11_of 6 = .ok (.bipush 10, 2) := by decide +kernel
theorem dX11_of_8 : decode cX11_of 8 = .ok (.iload_n 1, 1) := by decide +kernel
theorem dX11_of_9 : decode cX11_of 9 = .ok (.imul, 1) := by decide +kernel
theorem dX11_of_10 : decode cX11_of 10 = .ok (.iadd, 1) := by decide +kernel
theorem dX11_of_11 : decode cX11_of 11 = .ok (.iload_n 2, 1) := by decide +kernel
theorem dX11_of_12 : decode cX11_of 12 = .ok (.iadd, 1) := by decide +kernel
theorem dX11_of_13 : decode cX11_of 13 = .ok (.iaload, 1) := by decide +kernel
theorem dX11_of_14 : decode cX11_of 14 = .ok (.ireturn, 1) := by decide +kernel
theorem dX11_to_0 : decode cX11_to 0 = .ok (.aload_n 0, 1) := by decide +kernel
theorem dX11_to_1 : decode cX11_to 1 = .ok (.getfield 57, 3) := by decide +kernel
theorem dX11_to_4 : decode cX11_to 4 = .ok (.bipush 70, 2) := by decide +kernel
theorem dX11_to_6 : decode cX11_to 6 = .ok (.bipush 10, 2) := by decide +kernel
theorem dX11_to_8 : decode cX11_to 8 = .ok (.iload_n 1, 1) := by decide +kernel
theorem dX11_to_9 : decode cX11_to 9 = .ok (.imul, 1) := by decide +kernel
theorem dX11_to_10 : decode cX11_to 10 = .ok (.iadd, 1) := by decide +kernel
theorem dX11_to_11 : decode cX11_to 11 = .ok (.iload_n 2, 1) := by decide +kernel
theorem dX11_to_12 : decode cX11_to 12 = .ok (.iadd, 1) := by decide +kernel
theorem dX11_to_13 : decode cX11_to 13 = .ok (.iload_n 3, 1) := by decide +kernel
theorem dX11_to_14 : decode cX11_to 14 = .ok (.iastore, 1) := by decide +kernel
theorem dX11_to_15 : decode cX11_to 15 = .ok (.return_, 1) := by decide +kernel
theorem dX11_frees_0 : decode cX11_frees 0 = .ok (.iconst 0, 1) := by decide +kernel
theorem dX11_frees_1 : decode cX11_frees 1 = .ok (.istore_n 2, 1) := by decide +kernel
theorem dX11_frees_2 : decode cX11_frees 2 = .ok (.iload_n 2, 1) := by decide +kernel
theorem dX11_frees_3 : decode cX11_frees 3 = .ok (.bipush 10, 2) := by decide +kernel
theorem dX11_frees_5 : decode cX11_frees 5 = .ok (.if_icmp .ge 16, 3) := by decide +kernel
theorem dX11_frees_8 : decode cX11_frees 8 = .ok (.aload_n 0, 1) := by decide +kernel
theorem dX11_frees_9 : decode cX11_frees 9 = .ok (.iload_n 1, 1) := by decide +kernel
theorem dX11_frees_10 : decode cX11_frees 10 = .ok (.iload_n 2, 1) := by decide +kernel
theorem dX11_frees_11 : decode cX11_frees 11 = .ok (.iconst 0, 1) := by decide +kernel
theorem dX11_frees_12 : decode cX11_frees 12 = .ok (.invokevirtual 148, 3) := by decide +kernel
theorem dX11_frees_15 : decode cX11_frees 15 = .ok (.iinc 2 1, 3) := by decide +kernel
theorem dX11_frees_18 : decode cX11_frees 18 = .ok (.goto (-16), 3) := by decide +kernel
theorem dX11_frees_21 : decode cX11_frees 21 = .ok (.return_, 1) := by decide +kernel
theorem dX11_isScript_0 : decode cX11_isScript 0 = .ok (.iload_n 1, 1) := by decide +kernel
theorem dX11_isScript_1 : decode cX11_isScript 1 = .ok (.i2l, 1) := by decide +kernel
theorem dX11_isScript_2 : decode cX11_isScript 2 = .ok (.lconst 1, 1) := by decide +kernel
theorem dX11_isScript_3 : decode cX11_isScript 3 = .ok (.ldc2_w 152, 3) := by decide +kernel
theorem dX11_isScript_6 : decode cX11_isScript 6 = .ok (.invokestatic 72, 3) := by decide +kernel
theorem dX11_isScript_9 : decode cX11_isScript 9 = .ok (.ifCond .eq 16, 3) := by decide +kernel
theorem dX11_isScript_12 : decode cX11_isScript 12 = .ok (.aload_n 0, 1) := by decide +kernel
theorem dX11_isScript_13 : decode cX11_isScript 13 = .ok (.getfield 33, 3) := by decide +kernel
theorem dX11_isScript_16 : decode cX11_isScript 16 = .ok (.iload_n 1, 1) := by decide +kernel
theorem dX11_isScript_17 : decode cX11_isScript 17 = .ok (.iaload, 1) := by decide +kernel
theorem dX11_isScript_18 : decode cX11_isScript 18 = .ok (.ifCond .le 7, 3) := by decide +kernel
theorem dX11_isScript_21 : decode cX11_isScript 21 = .ok (.iconst 1, 1) := by decide +kernel
theorem dX11_isScript_22 : decode cX11_isScript 22 = .ok (.goto 4, 3) := by decide +kernel
theorem dX11_isScript_25 : decode cX11_isScript 25 = .ok (.iconst 0, 1) := by decide +kernel
theorem dX11_isScript_26 : decode cX11_isScript 26 = .ok (.ireturn, 1) := by decide +kernel
theorem dX11_started_0 : decode cX11_started 0 = .ok (.aload_n 0, 1) := by decide +kernel
theorem dX11_started_1 : decode cX11_started 1 = .ok (.iload_n 1, 1) := by decide +kernel
theorem dX11_started_2 : decode cX11_started 2 = .ok (.invokevirtual 154, 3) := by decide +kernel
theorem dX11_started_5 : decode cX11_started 5 = .ok (.ifCond .ne 5, 3) := by decide +kernel
theorem dX11_started_8 : decode cX11_started 8 = .ok (.iconst (-1), 1) := by decide +kernel
theorem dX11_started_9 : decode cX11_started 9 = .ok (.ireturn, 1) := by decide +kernel
theorem dX11_started_10 : decode cX11_started 10 = .ok (.iconst 0, 1) := by decide +kernel
theorem dX11_started_11 : decode cX11_started 11 = .ok (.istore_n 2, 1) := by decide +kernel
theorem dX11_started_12 : decode cX11_started 12 = .ok (.iload_n 2, 1) := by decide +kernel
theorem dX11_started_13 : decode cX11_started 13 = .ok (.bipush 8, 2) := by decide +kernel
theorem dX11_started_15 : decode cX11_started 15 = .ok (.if_icmp .ge 32, 3) := by decide +kernel
theorem dX11_started_18 : decode cX11_started 18 = .ok (.aload_n 0, 1) := by decide +kernel
theorem dX11_started_19 : decode cX11_started 19 = .ok (.iload_n 2, 1) := by decide +kernel
theorem dX11_started_20 : decode cX11_started 20 = .ok (.iconst 0, 1) := by decide +kernel
theorem dX11_started_21 : decode cX11_started 21 = .ok (.invokevirtual 158, 3) := by decide +kernel
theorem dX11_started_24 : decode cX11_started 24 = .ok (.ifCond .ne 17, 3) := by decide +kernel
theorem dX11_started_27 : decode cX11_started 27 = .ok (.aload_n 0, 1) := by decide +kernel
theorem dX11_started_28 : decode cX11_started 28 = .ok (.iload_n 2, 1) := by decide +kernel
theorem dX11_started_29 : decode cX11_started 29 = .ok (.invokevirtual 161, 3) := by decide +kernel
theorem dX11_started_32 : decode cX11_started 32 = .ok (.aload_n 0, 1) := by decide +kernel
theorem dX11_started_33 : decode cX11_started 33 = .ok (.iload_n 2, 1) := by decide +kernel
theorem dX11_started_34 : decode cX11_started 34 = .ok (.iconst 0, 1) := by decide +kernel
theorem dX11_started_35 : decode cX11_started 35 = .ok (.iload_n 1, 1) := by decide +kernel
theorem dX11_started_36 : decode cX11_started 36 = .ok (.invokevirtual 148, 3) := by decide +kernel
theorem dX11_started_39 : decode cX11_started 39 = .ok (.iload_n 2, 1) := by decide +kernel
theorem dX11_started_40 : decode cX11_started 40 = .ok (.ireturn, 1) := by decide +kernel
theorem dX11_started_41 : decode cX11_started 41 = .ok (.iinc 2 1, 3) := by decide +kernel
theorem dX11_started_44 : decode cX11_started 44 = .ok (.goto (-32), 3) := by decide +kernel
theorem dX11_started_47 : decode cX11_started 47 = .ok (.aload_n 0, 1) := by decide +kernel
theorem dX11_started_48 : decode cX11_started 48 = .ok (.getfield 57, 3) := by decide +kernel
theorem dX11_started_51 : decode cX11_started 51 = .ok (.iconst 4, 1) := by decide +kernel
theorem dX11_started_52 : decode cX11_started 52 = .ok (.dup2, 1) := by decide +kernel
theorem dX11_started_53 : decode cX11_started 53 = .ok (.iaload, 1) := by decide +kernel
theorem dX11_started_54 : decode cX11_started 54 = .ok (.iconst 1, 1) := by decide +kernel
theorem dX11_started_55 : decode cX11_started 55 = .ok (.iadd, 1) := by decide +kernel
theorem dX11_started_56 : decode cX11_started 56 = .ok (.iastore, 1) := by decide +kernel
theorem dX11_started_57 : decode cX11_started 57 = .ok (.iconst (-1), 1) := by decide +kernel
theorem dX11_started_58 : decode cX11_started 58 = .ok (.ireturn, 1) := by decide +kernel
theorem dX11_says_0 : decode cX11_says 0 = .ok (.aload_n 0, 1) := by decide +kernel
theorem dX11_says_1 : decode cX11_says 1 = .ok (.getfield 57, 3) := by decide +kernel
theorem dX11_says_4 : decode cX11_says 4 = .ok (.iconst 5, 1) := by decide +kernel
theorem dX11_says_5 : decode cX11_says 5 = .ok (.iaload, 1) := by decide +kernel
theorem dX11_says_6 : decode cX11_says 6 = .ok (.bipush 6, 2) := by decide +kernel
theorem dX11_says_8 : decode cX11_says 8 = .ok (.if_icmp .ne 15, 3) := by decide +kernel
theorem dX11_says_11 : decode cX11_says 11 = .ok (.aload_n 0, 1) := by decide +kernel
theorem dX11_says_12 : decode cX11_says 12 = .ok (.getfield 57, 3) := by decide +kernel
theorem dX11_says_15 : decode cX11_says 15 = .ok (.iconst 4, 1) := by decide +kernel
theorem dX11_says_16 : decode cX11_says 16 = .ok (.dup2, 1) := by decide +kernel
theorem dX11_says_17 : decode cX11_says 17 = .ok (.iaload, 1) := by decide +kernel
theorem dX11_says_18 : decode cX11_says 18 = .ok (.iconst 1, 1) := by decide +kernel
theorem dX11_says_19 : decode cX11_says 19 = .ok (.iadd, 1) := by decide +kernel
theorem dX11_says_20 : decode cX11_says 20 = .ok (.iastore, 1) := by decide +kernel
theorem dX11_says_21 : decode cX11_says 21 = .ok (.iconst (-1), 1) := by decide +kernel
theorem dX11_says_22 : decode cX11_says 22 = .ok (.ireturn, 1) := by decide +kernel
theorem dX11_says_23 : decode cX11_says 23 = .ok (.sipush 150, 3) := by decide +kernel
theorem dX11_says_26 : decode cX11_says 26 = .ok (.iconst 3, 1) := by decide +kernel
theorem dX11_says_27 : decode cX11_says 27 = .ok (.aload_n 0, 1) := by decide +kernel
theorem dX11_says_28 : decode cX11_says 28 = .ok (.getfield 57, 3) := by decide +kernel
theorem dX11_says_31 : decode cX11_says 31 = .ok (.iconst 5, 1) := by decide +kernel
theorem dX11_says_32 : decode cX11_says 32 = .ok (.iaload, 1) := by decide +kernel
theorem dX11_says_33 : decode cX11_says 33 = .ok (.imul, 1) := by decide +kernel
theorem dX11_says_34 : decode cX11_says 34 = .ok (.iadd, 1) := by decide +kernel
theorem dX11_says_35 : decode cX11_says 35 = .ok (.istore 4, 2) := by decide +kernel
theorem dX11_says_37 : decode cX11_says 37 = .ok (.aload_n 0, 1) := by decide +kernel
theorem dX11_says_38 : decode cX11_says 38 = .ok (.getfield 57, 3) := by decide +kernel
theorem dX11_says_41 : decode cX11_says 41 = .ok (.iload 4, 2) := by decide +kernel
theorem dX11_says_43 : decode cX11_says 43 = .ok (.iload_n 1, 1) := by decide +kernel
theorem dX11_says_44 : decode cX11_says 44 = .ok (.iastore, 1) := by decide +kernel
theorem dX11_says_45 : decode cX11_says 45 = .ok (.aload_n 0, 1) := by decide +kernel
theorem dX11_says_46 : decode cX11_says 46 = .ok (.getfield 57, 3) := by decide +kernel
theorem dX11_says_49 : decode cX11_says 49 = .ok (.iload 4, 2) := by decide +kernel
theorem dX11_says_51 : decode cX11_says 51 = .ok (.iconst 1, 1) := by decide +kernel
theorem dX11_says_52 : decode cX11_says 52 = .ok (.iadd, 1) := by decide +kernel
theorem dX11_says_53 : decode cX11_says 53 = .ok (.iload_n 2, 1) := by decide +kernel
theorem dX11_says_54 : decode cX11_says 54 = .ok (.iastore, 1) := by decide +kernel
theorem dX11_says_55 : decode cX11_says 55 = .ok (.aload_n 0, 1) := by decide +kernel
theorem dX11_says_56 : decode cX11_says 56 = .ok (.getfield 57, 3) := by decide +kernel
theorem dX11_says_59 : decode cX11_says 59 = .ok (.iload 4, 2) := by decide +kernel
theorem dX11_says_61 : decode cX11_says 61 = .ok (.iconst 2, 1) := by decide +kernel
theorem dX11_says_62 : decode cX11_says 62 = .ok (.iadd, 1) := by decide +kernel
theorem dX11_says_63 : decode cX11_says 63 = .ok (.iload_n 3, 1) := by decide +kernel
theorem dX11_says_64 : decode cX11_says 64 = .ok (.iastore, 1) := by decide +kernel
theorem dX11_says_65 : decode cX11_says 65 = .ok (.aload_n 0, 1) := by decide +kernel
theorem dX11_says_66 : decode cX11_says 66 = .ok (.getfield 57, 3) := by decide +kernel
theorem dX11_says_69 : decode cX11_says 69 = .ok (.iconst 5, 1) := by decide +kernel
theorem dX11_says_70 : decode cX11_says 70 = .ok (.dup2, 1) := by decide +kernel
theorem dX11_says_71 : decode cX11_says 71 = .ok (.iaload, 1) := by decide +kernel
theorem dX11_says_72 : decode cX11_says 72 = .ok (.iconst 1, 1) := by decide +kernel
theorem dX11_says_73 : decode cX11_says 73 = .ok (.iadd, 1) := by decide +kernel
theorem dX11_says_74 : decode cX11_says 74 = .ok (.iastore, 1) := by decide +kernel
theorem dX11_says_75 : decode cX11_says 75 = .ok (.aload_n 0, 1) := by decide +kernel
theorem dX11_says_76 : decode cX11_says 76 = .ok (.getfield 57, 3) := by decide +kernel
theorem dX11_says_79 : decode cX11_says 79 = .ok (.iconst 5, 1) := by decide +kernel
theorem dX11_says_80 : decode cX11_says 80 = .ok (.iaload, 1) := by decide +kernel
theorem dX11_says_81 : decode cX11_says 81 = .ok (.ireturn, 1) := by decide +kernel
theorem dX11_isActor_0 : decode cX11_isActor 0 = .ok (.iload_n 1, 1) := by decide +kernel
theorem dX11_isActor_1 : decode cX11_isActor 1 = .ok (.i2l, 1) := by decide +kernel
theorem dX11_isActor_2 : decode cX11_isActor 2 = .ok (.lconst 1, 1) := by decide +kernel
theorem dX11_isActor_3 : decode cX11_isActor 3 = .ok (.ldc2_w 164, 3) := by decide +kernel
theorem dX11_isActor_6 : decode cX11_isActor 6 = .ok (.invokestatic 72, 3) := by decide +kernel
theorem dX11_isActor_9 : decode cX11_isActor 9 = .ok (.ifCond .eq 16, 3) := by decide +kernel
theorem dX11_isActor_12 : decode cX11_isActor 12 = .ok (.aload_n 0, 1) := by decide +kernel
theorem dX11_isActor_13 : decode cX11_isActor 13 = .ok (.getfield 48, 3) := by decide +kernel
theorem dX11_isActor_16 : decode cX11_isActor 16 = .ok (.iload_n 1, 1) := by decide +kernel
theorem dX11_isActor_17 : decode cX11_isActor 17 = .ok (.baload, 1) := by decide +kernel
theorem dX11_isActor_18 : decode cX11_isActor 18 = .ok (.ifCond .eq 7, 3) := by decide +kernel
theorem dX11_isActor_21 : decode cX11_isActor 21 = .ok (.iconst 1, 1) := by decide +kernel
theorem dX11_isActor_22 : decode cX11_isActor 22 = .ok (.goto 4, 3) := by decide +kernel
theorem dX11_isActor_25 : decode cX11_isActor 25 = .ok (.iconst 0, 1) := by decide +kernel
theorem dX11_isActor_26 : decode cX11_isActor 26 = .ok (.ireturn, 1) := by decide +kernel
theorem dX11_isObject_0 : decode cX11_isObject 0 = .ok (.iload_n 1, 1) := by decide +kernel
theorem dX11_isObject_1 : decode cX11_isObject 1 = .ok (.i2l, 1) := by decide +kernel
theorem dX11_isObject_2 : decode cX11_isObject 2 = .ok (.lconst 1, 1) := by decide +kernel
theorem dX11_isObject_3 : decode cX11_isObject 3 = .ok (.ldc2_w 152, 3) := by decide +kernel
theorem dX11_isObject_6 : decode cX11_isObject 6 = .ok (.invokestatic 72, 3) := by decide +kernel
theorem dX11_isObject_9 : decode cX11_isObject 9 = .ok (.ifCond .eq 16, 3) := by decide +kernel
theorem dX11_isObject_12 : decode cX11_isObject 12 = .ok (.aload_n 0, 1) := by decide +kernel
theorem dX11_isObject_13 : decode cX11_isObject 13 = .ok (.getfield 36, 3) := by decide +kernel
theorem dX11_isObject_16 : decode cX11_isObject 16 = .ok (.iload_n 1, 1) := by decide +kernel
theorem dX11_isObject_17 : decode cX11_isObject 17 = .ok (.baload, 1) := by decide +kernel
theorem dX11_isObject_18 : decode cX11_isObject 18 = .ok (.ifCond .eq 7, 3) := by decide +kernel
theorem dX11_isObject_21 : decode cX11_isObject 21 = .ok (.iconst 1, 1) := by decide +kernel
theorem dX11_isObject_22 : decode cX11_isObject 22 = .ok (.goto 4, 3) := by decide +kernel
theorem dX11_isObject_25 : decode cX11_isObject 25 = .ok (.iconst 0, 1) := by decide +kernel
theorem dX11_isObject_26 : decode cX11_isObject 26 = .ok (.ireturn, 1) := by decide +kernel
theorem dX11_actorOf_0 : decode cX11_actorOf 0 = .ok (.aload_n 0, 1) := by decide +kernel
theorem dX11_actorOf_1 : decode cX11_actorOf 1 = .ok (.getfield 57, 3) := by decide +kernel
theorem dX11_actorOf_4 : decode cX11_actorOf 4 = .ok (.sipush 232, 3) := by decide +kernel
theorem dX11_actorOf_7 : decode cX11_actorOf 7 = .ok (.bipush 7, 2) := by decide +kernel
theorem dX11_actorOf_9 : decode cX11_actorOf 9 = .ok (.iload_n 1, 1) := by decide +kernel
theorem dX11_actorOf_10 : decode cX11_actorOf 10 = .ok (.imul, 1) := by decide +kernel
theorem dX11_actorOf_11 : decode cX11_actorOf 11 = .ok (.iadd, 1) := by decide +kernel
theorem dX11_actorOf_12 : decode cX11_actorOf 12 = .ok (.iload_n 2, 1) := by decide +kernel
theorem dX11_actorOf_13 : decode cX11_actorOf 13 = .ok (.iadd, 1) := by decide +kernel
theorem dX11_actorOf_14 : decode cX11_actorOf 14 = .ok (.iaload, 1) := by decide +kernel
theorem dX11_actorOf_15 : decode cX11_actorOf 15 = .ok (.ireturn, 1) := by decide +kernel
theorem dX11_actorTo_0 : decode cX11_actorTo 0 = .ok (.aload_n 0, 1) := by decide +kernel
theorem dX11_actorTo_1 : decode cX11_actorTo 1 = .ok (.getfield 57, 3) := by decide +kernel
theorem dX11_actorTo_4 : decode cX11_actorTo 4 = .ok (.sipush 232, 3) := by decide +kernel
theorem dX11_actorTo_7 : decode cX11_actorTo 7 = .ok (.bipush 7, 2) := by decide +kernel
theorem dX11_actorTo_9 : decode cX11_actorTo 9 = .ok (.iload_n 1, 1) := by decide +kernel
theorem dX11_actorTo_10 : decode cX11_actorTo 10 = .ok (.imul, 1) := by decide +kernel
theorem dX11_actorTo_11 : decode cX11_actorTo 11 = .ok (.iadd, 1) := by decide +kernel
theorem dX11_actorTo_12 : decode cX11_actorTo 12 = .ok (.iload_n 2, 1) := by decide +kernel
theorem dX11_actorTo_13 : decode cX11_actorTo 13 = .ok (.iadd, 1) := by decide +kernel
theorem dX11_actorTo_14 : decode cX11_actorTo 14 = .ok (.iload_n 3, 1) := by decide +kernel
theorem dX11_actorTo_15 : decode cX11_actorTo 15 = .ok (.iastore, 1) := by decide +kernel
theorem dX11_actorTo_16 : decode cX11_actorTo 16 = .ok (.return_, 1) := by decide +kernel
theorem dX11_scriptOf_0 : decode cX11_scriptOf 0 = .ok (.iconst 0, 1) := by decide +kernel
theorem dX11_scriptOf_1 : decode cX11_scriptOf 1 = .ok (.istore_n 3, 1) := by decide +kernel
theorem dX11_scriptOf_2 : decode cX11_scriptOf 2 = .ok (.iload_n 3, 1) := by decide +kernel
theorem dX11_scriptOf_3 : decode cX11_scriptOf 3 = .ok (.aload_n 0, 1) := by decide +kernel
theorem dX11_scriptOf_4 : decode cX11_scriptOf 4 = .ok (.getfield 45, 3) := by decide +kernel
theorem dX11_scriptOf_7 : decode cX11_scriptOf 7 = .ok (.iload_n 1, 1) := by decide +kernel
theorem dX11_scriptOf_8 : decode cX11_scriptOf 8 = .ok (.iaload, 1) := by decide +kernel
theorem dX11_scriptOf_9 : decode cX11_scriptOf 9 = .ok (.if_icmp .ge 46, 3) := by decide +kernel
theorem dX11_scriptOf_12 : decode cX11_scriptOf 12 = .ok (.aload_n 0, 1) := by decide +kernel
theorem dX11_scriptOf_13 : decode cX11_scriptOf 13 = .ok (.getfield 17, 3) := by decide +kernel
theorem dX11_scriptOf_16 : decode cX11_scriptOf 16 = .ok (.aload_n 0, 1) := by decide +kernel
theorem dX11_scriptOf_17 : decode cX11_scriptOf 17 = .ok (.getfield 42, 3) := by decide +kernel
theorem dX11_scriptOf_20 : decode cX11_scriptOf 20 = .ok (.iload_n 1, 1) := by decide +kernel
theorem dX11_scriptOf_21 : decode cX11_scriptOf 21 = .ok (.iaload, 1) := by decide +kernel
theorem dX11_scriptOf_22 : decode cX11_scriptOf 22 = .ok (.iconst 2, 1) := by decide +kernel
theorem dX11_scriptOf_23 : decode cX11_scriptOf 23 = .ok (.iload_n 3, 1) := by decide +kernel
theorem dX11_scriptOf_24 : decode cX11_scriptOf 24 = .ok (.imul, 1) := by decide +kernel
theorem dX11_scriptOf_25 : decode cX11_scriptOf 25 = .ok (.iadd, 1) := by decide +kernel
theorem dX11_scriptOf_26 : decode cX11_scriptOf 26 = .ok (.iaload, 1) := by decide +kernel
theorem dX11_scriptOf_27 : decode cX11_scriptOf 27 = .ok (.iload_n 2, 1) := by decide +kernel
theorem dX11_scriptOf_28 : decode cX11_scriptOf 28 = .ok (.if_icmp .ne 21, 3) := by decide +kernel
theorem dX11_scriptOf_31 : decode cX11_scriptOf 31 = .ok (.aload_n 0, 1) := by decide +kernel
theorem dX11_scriptOf_32 : decode cX11_scriptOf 32 = .ok (.getfield 17, 3) := by decide +kernel
theorem dX11_scriptOf_35 : decode cX11_scriptOf 35 = .ok (.aload_n 0, 1) := by decide +kernel
theorem dX11_scriptOf_36 : decode cX11_scriptOf 36 = .ok (.getfield 42, 3) := by decide +kernel
theorem dX11_scriptOf_39 : decode cX11_scriptOf 39 = .ok (.iload_n 1, 1) := by decide +kernel
theorem dX11_scriptOf_40 : decode cX11_scriptOf 40 = .ok (.iaload, 1) := by decide +kernel
theorem dX11_scriptOf_41 : decode cX11_scriptOf 41 = .ok (.iconst 2, 1) := by decide +kernel
theorem dX11_scriptOf_42 : decode cX11_scriptOf 42 = .ok (.iload_n 3, 1) := by decide +kernel
theorem dX11_scriptOf_43 : decode cX11_scriptOf 43 = .ok (.imul, 1) := by decide +kernel
theorem dX11_scriptOf_44 : decode cX11_scriptOf 44 = .ok (.iadd, 1) := by decide +kernel
theorem dX11_scriptOf_45 : decode cX11_scriptOf 45 = .ok (.iconst 1, 1) := by decide +kernel
theorem dX11_scriptOf_46 : decode cX11_scriptOf 46 = .ok (.iadd, 1) := by decide +kernel
theorem dX11_scriptOf_47 : decode cX11_scriptOf 47 = .ok (.iaload, 1) := by decide +kernel
theorem dX11_scriptOf_48 : decode cX11_scriptOf 48 = .ok (.ireturn, 1) := by decide +kernel
theorem dX11_scriptOf_49 : decode cX11_scriptOf 49 = .ok (.iinc 3 1, 3) := by decide +kernel
theorem dX11_scriptOf_52 : decode cX11_scriptOf 52 = .ok (.goto (-50), 3) := by decide +kernel
theorem dX11_scriptOf_55 : decode cX11_scriptOf 55 = .ok (.iconst 0, 1) := by decide +kernel
theorem dX11_scriptOf_56 : decode cX11_scriptOf 56 = .ok (.ireturn, 1) := by decide +kernel
theorem dX11_isBox_0 : decode cX11_isBox 0 = .ok (.iload_n 1, 1) := by decide +kernel
theorem dX11_isBox_1 : decode cX11_isBox 1 = .ok (.i2l, 1) := by decide +kernel
theorem dX11_isBox_2 : decode cX11_isBox 2 = .ok (.lconst 0, 1) := by decide +kernel
theorem dX11_isBox_3 : decode cX11_isBox 3 = .ok (.ldc2_w 166, 3) := by decide +kernel
theorem dX11_isBox_6 : decode cX11_isBox 6 = .ok (.invokestatic 72, 3) := by decide +kernel
theorem dX11_isBox_9 : decode cX11_isBox 9 = .ok (.ifCond .eq 25, 3) := by decide +kernel
theorem dX11_isBox_12 : decode cX11_isBox 12 = .ok (.iload_n 2, 1) := by decide +kernel
theorem dX11_isBox_13 : decode cX11_isBox 13 = .ok (.i2l, 1) := by decide +kernel
theorem dX11_isBox_14 : decode cX11_isBox 14 = .ok (.lconst 0, 1) := by decide +kernel
theorem dX11_isBox_15 : decode cX11_isBox 15 = .ok (.aload_n 0, 1) := by decide +kernel
theorem dX11_isBox_16 : decode cX11_isBox 16 = .ok (.getfield 24, 3) := by decide +kernel
theorem dX11_isBox_19 : decode cX11_isBox 19 = .ok (.iload_n 1, 1) := by decide +kernel
theorem dX11_isBox_20 : decode cX11_isBox 20 = .ok (.iaload, 1) := by decide +kernel
theorem dX11_isBox_21 : decode cX11_isBox 21 = .ok (.iconst 1, 1) := by decide +kernel
theorem dX11_isBox_22 : decode cX11_isBox 22 = .ok (.isub, 1) := by decide +kernel
theorem dX11_isBox_23 : decode cX11_isBox 23 = .ok (.i2l, 1) := by decide +kernel
theorem dX11_isBox_24 : decode cX11_isBox 24 = .ok (.invokestatic 72, 3) := by decide +kernel
theorem dX11_isBox_27 : decode cX11_isBox 27 = .ok (.ifCond .eq 7, 3) := by decide +kernel
theorem dX11_isBox_30 : decode cX11_isBox 30 = .ok (.iconst 1, 1) := by decide +kernel
theorem dX11_isBox_31 : decode cX11_isBox 31 = .ok (.goto 4, 3) := by decide +kernel
theorem dX11_isBox_34 : decode cX11_isBox 34 = .ok (.iconst 0, 1) := by decide +kernel
theorem dX11_isBox_35 : decode cX11_isBox 35 = .ok (.ireturn, 1) := by decide +kernel
theorem dX11_side_0 : decode cX11_side 0 = .ok (.aload_n 0, 1) := by decide +kernel
theorem dX11_side_1 : decode cX11_side 1 = .ok (.getfield 27, 3) := by decide +kernel
theorem dX11_side_4 : decode cX11_side 4 = .ok (.iload_n 1, 1) := by decide +kernel
theorem dX11_side_5 : decode cX11_side 5 = .ok (.bipush 16, 2) := by decide +kernel
theorem dX11_side_7 : decode cX11_side 7 = .ok (.imul, 1) := by decide +kernel
theorem dX11_side_8 : decode cX11_side 8 = .ok (.iload_n 2, 1) := by decide +kernel
theorem dX11_side_9 : decode cX11_side 9 = .ok (.iadd, 1) := by decide +kernel
theorem dX11_side_10 : decode cX11_side 10 = .ok (.iconst 4, 1) := by decide +kernel
theorem dX11_side_11 : decode cX11_side 11 = .ok (.imul, 1) := by decide +kernel
theorem dX11_side_12 : decode cX11_side 12 = .ok (.iload_n 3, 1) := by decide +kernel
theorem dX11_side_13 : decode cX11_side 13 = .ok (.iadd, 1) := by decide +kernel
theorem dX11_side_14 : decode cX11_side 14 = .ok (.iaload, 1) := by decide +kernel
theorem dX11_side_15 : decode cX11_side 15 = .ok (.ireturn, 1) := by decide +kernel
theorem dX11_isOpen_0 : decode cX11_isOpen 0 = .ok (.aload_n 0, 1) := by decide +kernel
theorem dX11_isOpen_1 : decode cX11_isOpen 1 = .ok (.getfield 57, 3) := by decide +kernel
theorem dX11_isOpen_4 : decode cX11_isOpen 4 = .ok (.sipush 445, 3) := by decide +kernel
theorem dX11_isOpen_7 : decode cX11_isOpen 7 = .ok (.iload_n 1, 1) := by decide +kernel
theorem dX11_isOpen_8 : decode cX11_isOpen 8 = .ok (.bipush 16, 2) := by decide +kernel
theorem dX11_isOpen_10 : decode cX11_isOpen 10 = .ok (.imul, 1) := by decide +kernel
theorem dX11_isOpen_11 : decode cX11_isOpen 11 = .ok (.iadd, 1) := by decide +kernel
theorem dX11_isOpen_12 : decode cX11_isOpen 12 = .ok (.iload_n 2, 1) := by decide +kernel
theorem dX11_isOpen_13 : decode cX11_isOpen 13 = .ok (.iadd, 1) := by decide +kernel
theorem dX11_isOpen_14 : decode cX11_isOpen 14 = .ok (.iaload, 1) := by decide +kernel
theorem dX11_isOpen_15 : decode cX11_isOpen 15 = .ok (.ifCond .ne 7, 3) := by decide +kernel
theorem dX11_isOpen_18 : decode cX11_isOpen 18 = .ok (.iconst 1, 1) := by decide +kernel
theorem dX11_isOpen_19 : decode cX11_isOpen 19 = .ok (.goto 4, 3) := by decide +kernel
theorem dX11_isOpen_22 : decode cX11_isOpen 22 = .ok (.iconst 0, 1) := by decide +kernel
theorem dX11_isOpen_23 : decode cX11_isOpen 23 = .ok (.ireturn, 1) := by decide +kernel
theorem dX11_has_0 : decode cX11_has 0 = .ok (.iload_n 3, 1) := by decide +kernel
theorem dX11_has_1 : decode cX11_has 1 = .ok (.aload_n 0, 1) := by decide +kernel
theorem dX11_has_2 : decode cX11_has 2 = .ok (.iload_n 1, 1) := by decide +kernel
theorem dX11_has_3 : decode cX11_has 3 = .ok (.iload_n 2, 1) := by decide +kernel
theorem dX11_has_4 : decode cX11_has 4 = .ok (.iconst 0, 1) := by decide +kernel
theorem dX11_has_5 : decode cX11_has 5 = .ok (.invokevirtual 168, 3) := by decide +kernel
theorem dX11_has_8 : decode cX11_has 8 = .ok (.if_icmp .lt 42, 3) := by decide +kernel
theorem dX11_has_11 : decode cX11_has 11 = .ok (.iload_n 3, 1) := by decide +kernel
theorem dX11_has_12 : decode cX11_has 12 = .ok (.aload_n 0, 1) := by decide +kernel
theorem dX11_has_13 : decode cX11_has 13 = .ok (.iload_n 1, 1) := by decide +kernel
theorem dX11_has_14 : decode cX11_has 14 = .ok (.iload_n 2, 1) := by decide +kernel
theorem dX11_has_15 : decode cX11_has 15 = .ok (.iconst 2, 1) := by decide +kernel
theorem dX11_has_16 : decode cX11_has 16 = .ok (.invokevirtual 168, 3) := by decide +kernel
theorem dX11_has_19 : decode cX11_has 19 = .ok (.if_icmp .gt 31, 3) := by decide +kernel
theorem dX11_has_22 : decode cX11_has 22 = .ok (.iload 4, 2) := by decide +kernel
theorem dX11_has_24 : decode cX11_has 24 = .ok (.aload_n 0, 1) := by decide +kernel
theorem dX11_has_25 : decode cX11_has 25 = .ok (.iload_n 1, 1) := by decide +kernel
theorem dX11_has_26 : decode cX11_has 26 = .ok (.iload_n 2, 1) := by decide +kernel
theorem dX11_has_27 : decode cX11_has 27 = .ok (.iconst 1, 1) := by decide +kernel
theorem dX11_has_28 : decode cX11_has 28 = .ok (.invokevirtual 168, 3) := by decide +kernel
theorem dX11_has_31 : decode cX11_has 31 = .ok (.if_icmp .lt 19, 3) := by decide +kernel
theorem dX11_has_34 : decode cX11_has 34 = .ok (.iload 4, 2) := by decide +kernel
theorem dX11_has_36 : decode cX11_has 36 = .ok (.aload_n 0, 1) := by decide +kernel
theorem dX11_has_37 : decode cX11_has 37 = .ok (.iload_n 1, 1) := by decide +kernel
theorem dX11_has_38 : decode cX11_has 38 = .ok (.iload_n 2, 1) := by decide +kernel
theorem dX11_has_39 : decode cX11_has 39 = .ok (.iconst 3, 1) := by decide +kernel
theorem dX11_has_40 : decode cX11_has 40 = .ok (.invokevirtual 168, 3) := by decide +kernel
theorem dX11_has_43 : decode cX11_has 43 = .ok (.if_icmp .gt 7, 3) := by decide +kernel
theorem dX11_has_46 : decode cX11_has 46 = .ok (.iconst 1, 1) := by decide +kernel
theorem dX11_has_47 : decode cX11_has 47 = .ok (.goto 4, 3) := by decide +kernel
theorem dX11_has_50 : decode cX11_has 50 = .ok (.iconst 0, 1) := by decide +kernel
theorem dX11_has_51 : decode cX11_has 51 = .ok (.ireturn, 1) := by decide +kernel
theorem dX11_gap_0 : decode cX11_gap 0 = .ok (.iconst 0, 1) := by decide +kernel
theorem dX11_gap_1 : decode cX11_gap 1 = .ok (.iload_n 0, 1) := by decide +kernel
theorem dX11_gap_2 : decode cX11_gap 2 = .ok (.iload_n 2, 1) := by decide +kernel
theorem dX11_gap_3 : decode cX11_gap 3 = .ok (.invokestatic 172, 3) := by decide +kernel
theorem dX11_gap_6 : decode cX11_gap 6 = .ok (.iload_n 1, 1) := by decide +kernel
theorem dX11_gap_7 : decode cX11_gap 7 = .ok (.iload_n 3, 1) := by decide +kernel
theorem dX11_gap_8 : decode cX11_gap 8 = .ok (.invokestatic 177, 3) := by decide +kernel
theorem dX11_gap_11 : decode cX11_gap 11 = .ok (.isub, 1) := by decide +kernel
theorem dX11_gap_12 : decode cX11_gap 12 = .ok (.invokestatic 172, 3) := by decide +kernel
theorem dX11_gap_15 : decode cX11_gap 15 = .ok (.ireturn, 1) := by decide +kernel
theorem dX11_near_0 : decode cX11_near 0 = .ok (.aload_n 0, 1) := by decide +kernel
theorem dX11_near_1 : decode cX11_near 1 = .ok (.iload_n 1, 1) := by decide +kernel
theorem dX11_near_2 : decode cX11_near 2 = .ok (.iload_n 2, 1) := by decide +kernel
theorem dX11_near_3 : decode cX11_near 3 = .ok (.iconst 0, 1) := by decide +kernel
theorem dX11_near_4 : decode cX11_near 4 = .ok (.invokevirtual 168, 3) := by decide +kernel
theorem dX11_near_7 : decode cX11_near 7 = .ok (.aload_n 0, 1) := by decide +kernel
theorem dX11_near_8 : decode cX11_near 8 = .ok (.iload_n 1, 1) := by decide +kernel
theorem dX11_near_9 : decode cX11_near 9 = .ok (.iload_n 2, 1) := by decide +kernel
theorem dX11_near_10 : decode cX11_near 10 = .ok (.iconst 2, 1) := by decide +kernel
theorem dX11_near_11 : decode cX11_near 11 = .ok (.invokevirtual 168, 3) := by decide +kernel
theorem dX11_near_14 : decode cX11_near 14 = .ok (.aload_n 0, 1) := by decide +kernel
theorem dX11_near_15 : decode cX11_near 15 = .ok (.iload_n 1, 1) := by decide +kernel
theorem dX11_near_16 : decode cX11_near 16 = .ok (.iload_n 3, 1) := by decide +kernel
theorem dX11_near_17 : decode cX11_near 17 = .ok (.iconst 0, 1) := by decide +kernel
theorem dX11_near_18 : decode cX11_near 18 = .ok (.invokevirtual 168, 3) := by decide +kernel
theorem dX11_near_21 : decode cX11_near 21 = .ok (.aload_n 0, 1) := by decide +kernel
theorem dX11_near_22 : decode cX11_near 22 = .ok (.iload_n 1, 1) := by decide +kernel
theorem dX11_near_23 : decode cX11_near 23 = .ok (.iload_n 3, 1) := by decide +kernel
theorem dX11_near_24 : decode cX11_near 24 = .ok (.iconst 2, 1) := by decide +kernel
theorem dX11_near_25 : decode cX11_near 25 = .ok (.invokevirtual 168, 3) := by decide +kernel
theorem dX11_near_28 : decode cX11_near 28 = .ok (.invokestatic 180, 3) := by decide +kernel
theorem dX11_near_31 : decode cX11_near 31 = .ok (.istore 4, 2) := by decide +kernel
theorem dX11_near_33 : decode cX11_near 33 = .ok (.aload_n 0, 1) := by decide +kernel
theorem dX11_near_34 : decode cX11_near 34 = .ok (.iload_n 1, 1) := by decide +kernel
theorem dX11_near_35 : decode cX11_near 35 = .ok (.iload_n 2, 1) := by decide +kernel
theorem dX11_near_36 : decode cX11_near 36 = .ok (.iconst 1, 1) := by decide +kernel
theorem dX11_near_37 : decode cX11_near 37 = .ok (.invokevirtual 168, 3) := by decide +kernel
theorem dX11_near_40 : decode cX11_near 40 = .ok (.aload_n 0, 1) := by decide +kernel
theorem dX11_near_41 : decode cX11_near 41 = .ok (.iload_n 1, 1) := by decide +kernel
theorem dX11_near_42 : decode cX11_near 42 = .ok (.iload_n 2, 1) := by decide +kernel
theorem dX11_near_43 : decode cX11_near 43 = .ok (.iconst 3, 1) := by decide +kernel
theorem dX11_near_44 : decode cX11_near 44 = .ok (.invokevirtual 168, 3) := by decide +kernel
theorem dX11_near_47 : decode cX11_near 47 = .ok (.aload_n 0, 1) := by decide +kernel
theorem dX11_near_48 : decode cX11_near 48 = .ok (.iload_n 1, 1) := by decide +kernel
theorem dX11_near_49 : decode cX11_near 49 = .ok (.iload_n 3, 1) := by decide +kernel
theorem dX11_near_50 : decode cX11_near 50 = .ok (.iconst 1, 1) := by decide +kernel
theorem dX11_near_51 : decode cX11_near 51 = .ok (.invokevirtual 168, 3) := by decide +kernel
theorem dX11_near_54 : decode cX11_near 54 = .ok (.aload_n 0, 1) := by decide +kernel
theorem dX11_near_55 : decode cX11_near 55 = .ok (.iload_n 1, 1) := by decide +kernel
theorem dX11_near_56 : decode cX11_near 56 = .ok (.iload_n 3, 1) := by decide +kernel
theorem dX11_near_57 : decode cX11_near 57 = .ok (.iconst 3, 1) := by decide +kernel
theorem dX11_near_58 : decode cX11_near 58 = .ok (.invokevirtual 168, 3) := by decide +kernel
theorem dX11_near_61 : decode cX11_near 61 = .ok (.invokestatic 180, 3) := by decide +kernel
theorem dX11_near_64 : decode cX11_near 64 = .ok (.istore 5, 2) := by decide +kernel
theorem dX11_near_66 : decode cX11_near 66 = .ok (.iload 4, 2) := by decide +kernel
theorem dX11_near_68 : decode cX11_near 68 = .ok (.iload 5, 2) := by decide +kernel
theorem dX11_near_70 : decode cX11_near 70 = .ok (.iadd, 1) := by decide +kernel
theorem dX11_near_71 : decode cX11_near 71 = .ok (.iconst 1, 1) := by decide +kernel
theorem dX11_near_72 : decode cX11_near 72 = .ok (.if_icmp .gt 7, 3) := by decide +kernel
theorem dX11_near_75 : decode cX11_near 75 = .ok (.iconst 1, 1) := by decide +kernel
theorem dX11_near_76 : decode cX11_near 76 = .ok (.goto 4, 3) := by decide +kernel
theorem dX11_near_79 : decode cX11_near 79 = .ok (.iconst 0, 1) := by decide +kernel
theorem dX11_near_80 : decode cX11_near 80 = .ok (.ireturn, 1) := by decide +kernel
theorem dX11_boxAt_0 : decode cX11_boxAt 0 = .ok (.iconst 0, 1) := by decide +kernel
theorem dX11_boxAt_1 : decode cX11_boxAt 1 = .ok (.istore 4, 2) := by decide +kernel
theorem dX11_boxAt_3 : decode cX11_boxAt 3 = .ok (.iload 4, 2) := by decide +kernel
theorem dX11_boxAt_5 : decode cX11_boxAt 5 = .ok (.aload_n 0, 1) := by decide +kernel
theorem dX11_boxAt_6 : decode cX11_boxAt 6 = .ok (.getfield 24, 3) := by decide +kernel
theorem dX11_boxAt_9 : decode cX11_boxAt 9 = .ok (.iload_n 1, 1) := by decide +kernel
theorem dX11_boxAt_10 : decode cX11_boxAt 10 = .ok (.iaload, 1) := by decide +kernel
theorem dX11_boxAt_11 : decode cX11_boxAt 11 = .ok (.if_icmp .ge 34, 3) := by decide +kernel
theorem dX11_boxAt_14 : decode cX11_boxAt 14 = .ok (.aload_n 0, 1) := by decide +kernel
theorem dX11_boxAt_15 : decode cX11_boxAt 15 = .ok (.iload_n 1, 1) := by decide +kernel
theorem dX11_boxAt_16 : decode cX11_boxAt 16 = .ok (.iload 4, 2) := by decide +kernel
theorem dX11_boxAt_18 : decode cX11_boxAt 18 = .ok (.invokevirtual 184, 3) := by decide +kernel
theorem dX11_boxAt_21 : decode cX11_boxAt 21 = .ok (.ifCond .eq 18, 3) := by decide +kernel
theorem dX11_boxAt_24 : decode cX11_boxAt 24 = .ok (.aload_n 0, 1) := by decide +kernel
theorem dX11_boxAt_25 : decode cX11_boxAt 25 = .ok (.iload_n 1, 1) := by decide +kernel
theorem dX11_boxAt_26 : decode cX11_boxAt 26 = .ok (.iload 4, 2) := by decide +kernel
theorem dX11_boxAt_28 : decode cX11_boxAt 28 = .ok (.iload_n 2, 1) := by decide +kernel
theorem dX11_boxAt_29 : decode cX11_boxAt 29 = .ok (.iload_n 3, 1) := by decide +kernel
theorem dX11_boxAt_30 : decode cX11_boxAt 30 = .ok (.invokevirtual 188, 3) := by decide +kernel
theorem dX11_boxAt_33 : decode cX11_boxAt 33 = .ok (.ifCond .eq 6, 3) := by decide +kernel
theorem dX11_boxAt_36 : decode cX11_boxAt 36 = .ok (.iload 4, 2) := by decide +kernel
theorem dX11_boxAt_38 : decode cX11_boxAt 38 = .ok (.ireturn, 1) := by decide +kernel
theorem dX11_boxAt_39 : decode cX11_boxAt 39 = .ok (.iinc 4 1, 3) := by decide +kernel
theorem dX11_boxAt_42 : decode cX11_boxAt 42 = .ok (.goto (-39), 3) := by decide +kernel
theorem dX11_boxAt_45 : decode cX11_boxAt 45 = .ok (.iconst (-1), 1) := by decide +kernel
theorem dX11_boxAt_46 : decode cX11_boxAt 46 = .ok (.ireturn, 1) := by decide +kernel
theorem dX11_boxOf_0 : decode cX11_boxOf 0 = .ok (.aload_n 0, 1) := by decide +kernel
theorem dX11_boxOf_1 : decode cX11_boxOf 1 = .ok (.aload_n 0, 1) := by decide +kernel
theorem dX11_boxOf_2 : decode cX11_boxOf 2 = .ok (.iload_n 1, 1) := by decide +kernel
theorem dX11_boxOf_3 : decode cX11_boxOf 3 = .ok (.iconst 0, 1) := by decide +kernel
theorem dX11_boxOf_4 : decode cX11_boxOf 4 = .ok (.invokevirtual 192, 3) := by decide +kernel
theorem dX11_boxOf_7 : decode cX11_boxOf 7 = .ok (.aload_n 0, 1) := by decide +kernel
theorem dX11_boxOf_8 : decode cX11_boxOf 8 = .ok (.iload_n 1, 1) := by decide +kernel
theorem dX11_boxOf_9 : decode cX11_boxOf 9 = .ok (.iconst 1, 1) := by decide +kernel
theorem dX11_boxOf_10 : decode cX11_boxOf 10 = .ok (.invokevirtual 192, 3) := by decide +kernel
theorem dX11_boxOf_13 : decode cX11_boxOf 13 = .ok (.aload_n 0, 1) := by decide +kernel
theorem dX11_boxOf_14 : decode cX11_boxOf 14 = .ok (.iload_n 1, 1) := by decide +kernel
theorem dX11_boxOf_15 : decode cX11_boxOf 15 = .ok (.iconst 2, 1) := by decide +kernel
theorem dX11_boxOf_16 : decode cX11_boxOf 16 = .ok (.invokevirtual 192, 3) := by decide +kernel
theorem dX11_boxOf_19 : decode cX11_boxOf 19 = .ok (.invokevirtual 195, 3) := by decide +kernel
theorem dX11_boxOf_22 : decode cX11_boxOf 22 = .ok (.ireturn, 1) := by decide +kernel
theorem dX11_ways_0 : decode cX11_ways 0 = .ok (.iconst 0, 1) := by decide +kernel
theorem dX11_ways_1 : decode cX11_ways 1 = .ok (.istore_n 3, 1) := by decide +kernel
theorem dX11_ways_2 : decode cX11_ways 2 = .ok (.iload_n 3, 1) := by decide +kernel
theorem dX11_ways_3 : decode cX11_ways 3 = .ok (.bipush 16, 2) := by decide +kernel
theorem dX11_ways_5 : decode cX11_ways 5 = .ok (.if_icmp .ge 25, 3) := by decide +kernel
theorem dX11_ways_8 : decode cX11_ways 8 = .ok (.aload_n 0, 1) := by decide +kernel
theorem dX11_ways_9 : decode cX11_ways 9 = .ok (.getfield 63, 3) := by decide +kernel
theorem dX11_ways_12 : decode cX11_ways 12 = .ok (.iload_n 3, 1) := by decide +kernel
theorem dX11_ways_13 : decode cX11_ways 13 = .ok (.iload_n 3, 1) := by decide +kernel
theorem dX11_ways_14 : decode cX11_ways 14 = .ok (.iload_n 2, 1) := by decide +kernel
theorem dX11_ways_15 : decode cX11_ways 15 = .ok (.if_icmp .ne 7, 3) := by decide +kernel
theorem dX11_ways_18 : decode cX11_ways 18 = .ok (.iconst 1, 1) := by decide +kernel
theorem dX11_ways_19 : decode cX11_ways 19 = .ok (.goto 4, 3) := by decide +kernel
theorem dX11_ways_22 : decode cX11_ways 22 = .ok (.iconst 0, 1) := by decide +kernel
theorem dX11_ways_23 : decode cX11_ways 23 = .ok (.iastore, 1) := by decide +kernel
theorem dX11_ways_24 : decode cX11_ways 24 = .ok (.iinc 3 1, 3) := by decide +kernel
theorem dX11_ways_27 : decode cX11_ways 27 = .ok (.goto (-25), 3) := by decide +kernel
theorem dX11_ways_30 : decode cX11_ways 30 = .ok (.iconst 1, 1) := by decide +kernel
theorem dX11_ways_31 : decode cX11_ways 31 = .ok (.istore_n 3, 1) := by decide +kernel
theorem dX11_ways_32 : decode cX11_ways 32 = .ok (.iconst 1, 1) := by decide +kernel
theorem dX11_ways_33 : decode cX11_ways 33 = .ok (.istore 4, 2) := by decide +kernel
theorem dX11_ways_35 : decode cX11_ways 35 = .ok (.iload_n 3, 1) := by decide +kernel
theorem dX11_ways_36 : decode cX11_ways 36 = .ok (.ifCond .eq 108, 3) := by decide +kernel
theorem dX11_ways_39 : decode cX11_ways 39 = .ok (.iconst 0, 1) := by decide +kernel
theorem dX11_ways_40 : decode cX11_ways 40 = .ok (.istore_n 3, 1) := by decide +kernel
theorem dX11_ways_41 : decode cX11_ways 41 = .ok (.iconst 0, 1) := by decide +kernel
theorem dX11_ways_42 : decode cX11_ways 42 = .ok (.istore 5, 2) := by decide +kernel
theorem dX11_ways_44 : decode cX11_ways 44 = .ok (.iload 5, 2) := by decide +kernel
theorem dX11_ways_46 : decode cX11_ways 46 = .ok (.aload_n 0, 1) := by decide +kernel
theorem dX11_ways_47 : decode cX11_ways 47 = .ok (.getfield 24, 3) := by decide +kernel
theorem dX11_ways_50 : decode cX11_ways 50 = .ok (.iload_n 1, 1) := by decide +kernel
theorem dX11_ways_51 : decode cX11_ways 51 = .ok (.iaload, 1) := by decide +kernel
theorem dX11_ways_52 : decode cX11_ways 52 = .ok (.if_icmp .ge 86, 3) := by decide +kernel
theorem dX11_ways_55 : decode cX11_ways 55 = .ok (.iconst 0, 1) := by decide +kernel
theorem dX11_ways_56 : decode cX11_ways 56 = .ok (.istore 6, 2) := by decide +kernel
theorem dX11_ways_58 : decode cX11_ways 58 = .ok (.iload 6, 2) := by decide +kernel
theorem dX11_ways_60 : decode cX11_ways 60 = .ok (.aload_n 0, 1) := by decide +kernel
theorem dX11_ways_61 : decode cX11_ways 61 = .ok (.getfield 24, 3) := by decide +kernel
theorem dX11_ways_64 : decode cX11_ways 64 = .ok (.iload_n 1, 1) := by decide +kernel
theorem dX11_ways_65 : decode cX11_ways 65 = .ok (.iaload, 1) := by decide +kernel
theorem dX11_ways_66 : decode cX11_ways 66 = .ok (.if_icmp .ge 66, 3) := by decide +kernel
theorem dX11_ways_69 : decode cX11_ways 69 = .ok (.aload_n 0, 1) := by decide +kernel
theorem dX11_ways_70 : decode cX11_ways 70 = .ok (.getfield 63, 3) := by decide +kernel
theorem dX11_ways_73 : decode cX11_ways 73 = .ok (.iload 5, 2) := by decide +kernel
theorem dX11_ways_75 : decode cX11_ways 75 = .ok (.iaload, 1) := by decide +kernel
theorem dX11_ways_76 : decode cX11_ways 76 = .ok (.iload 4, 2) := by decide +kernel
theorem dX11_ways_78 : decode cX11_ways 78 = .ok (.if_icmp .ne 54, 3) := by decide +kernel
theorem dX11_ways_81 : decode cX11_ways 81 = .ok (.aload_n 0, 1) := by decide +kernel
theorem dX11_ways_82 : decode cX11_ways 82 = .ok (.getfield 63, 3) := by decide +kernel
theorem dX11_ways_85 : decode cX11_ways 85 = .ok (.iload 6, 2) := by decide +kernel
theorem dX11_ways_87 : decode cX11_ways 87 = .ok (.iaload, 1) := by decide +kernel
theorem dX11_ways_88 : decode cX11_ways 88 = .ok (.ifCond .ne 38, 3) := by decide +kernel
theorem dX11_ways_91 : decode cX11_ways 91 = .ok (.aload_n 0, 1) := by decide +kernel
theorem dX11_ways_92 : decode cX11_ways 92 = .ok (.iload_n 1, 1) := by decide +kernel
theorem dX11_ways_93 : decode cX11_ways 93 = .ok (.iload 6, 2) := by decide +kernel
theorem dX11_ways_95 : decode cX11_ways 95 = .ok (.invokevirtual 184, 3) := by decide +kernel
theorem dX11_ways_98 : decode cX11_ways 98 = .ok (.ifCond .eq 28, 3) := by decide +kernel
theorem dX11_ways_101 : decode cX11_ways 101 = .ok (.aload_n 0, 1) := by decide +kernel
theorem dX11_ways_102 : decode cX11_ways 102 = .ok (.iload_n 1, 1) := by decide +kernel
theorem dX11_ways_103 : decode cX11_ways 103 = .ok (.iload 5, 2) := by decide +kernel
theorem dX11_ways_105 : decode cX11_ways 105 = .ok (.iload 6, 2) := by decide +kernel
theorem dX11_ways_107 : decode cX11_ways 107 = .ok (.invokevirtual 198, 3) := by decide +kernel
theorem dX11_ways_110 : decode cX11_ways 110 = .ok (.ifCond .eq 16, 3) := by decide +kernel
theorem dX11_ways_113 : decode cX11_ways 113 = .ok (.aload_n 0, 1) := by decide +kernel
theorem dX11_ways_114 : decode cX11_ways 114 = .ok (.getfield 63, 3) := by decide +kernel
theorem dX11_ways_117 : decode cX11_ways 117 = .ok (.iload 6, 2) := by decide +kernel
theorem dX11_ways_119 : decode cX11_ways 119 = .ok (.iload 4, 2) := by decide +kernel
theorem dX11_ways_121 : decode cX11_ways 121 = .ok (.iconst 1, 1) := by decide +kernel
theorem dX11_ways_122 : decode cX11_ways 122 = .ok (.iadd, 1) := by decide +kernel
theorem dX11_ways_123 : decode cX11_ways 123 = .ok (.iastore, 1) := by decide +kernel
theorem dX11_ways_124 : decode cX11_ways 124 = .ok (.iconst 1, 1) := by decide +kernel
theorem dX11_ways_125 : decode cX11_ways 125 = .ok (.istore_n 3, 1) := by decide +kernel
theorem dX11_ways_126 : decode cX11_ways 126 = .ok (.iinc 6 1, 3) := by decide +kernel
theorem dX11_ways_129 : decode cX11_ways 129 = .ok (.goto (-71), 3) := by decide +kernel
theorem dX11_ways_132 : decode cX11_ways 132 = .ok (.iinc 5 1, 3) := by decide +kernel
theorem dX11_ways_135 : decode cX11_ways 135 = .ok (.goto (-91), 3) := by decide +kernel
theorem dX11_ways_138 : decode cX11_ways 138 = .ok (.iinc 4 1, 3) := by decide +kernel
theorem dX11_ways_141 : decode cX11_ways 141 = .ok (.goto (-106), 3) := by decide +kernel
theorem dX11_ways_144 : decode cX11_ways 144 = .ok (.return_, 1) := by decide +kernel
theorem dX11_within_0 : decode cX11_within 0 = .ok (.iload_n 1, 1) := by decide +kernel
theorem dX11_within_1 : decode cX11_within 1 = .ok (.iload_n 2, 1) := by decide +kernel
theorem dX11_within_2 : decode cX11_within 2 = .ok (.iload_n 0, 1) := by decide +kernel
theorem dX11_within_3 : decode cX11_within 3 = .ok (.invokestatic 177, 3) := by decide +kernel
theorem dX11_within_6 : decode cX11_within 6 = .ok (.invokestatic 172, 3) := by decide +kernel
theorem dX11_within_9 : decode cX11_within 9 = .ok (.ireturn, 1) := by decide +kernel
theorem dX11_goals_0 : decode cX11_goals 0 = .ok (.aload_n 0, 1) := by decide +kernel
theorem dX11_goals_1 : decode cX11_goals 1 = .ok (.iload_n 1, 1) := by decide +kernel
theorem dX11_goals_2 : decode cX11_goals 2 = .ok (.iload_n 2, 1) := by decide +kernel
theorem dX11_goals_3 : decode cX11_goals 3 = .ok (.invokevirtual 202, 3) := by decide +kernel
theorem dX11_goals_6 : decode cX11_goals 6 = .ok (.ldc 207, 2) := by decide +kernel
theorem dX11_goals_8 : decode cX11_goals 8 = .ok (.istore 5, 2) := by decide +kernel
theorem dX11_goals_10 : decode cX11_goals 10 = .ok (.iconst 0, 1) := by decide +kernel
theorem dX11_goals_11 : decode cX11_goals 11 = .ok (.istore 6, 2) := by decide +kernel
theorem dX11_goals_13 : decode cX11_goals 13 = .ok (.iload 6, 2) := by decide +kernel
theorem dX11_goals_15 : decode cX11_goals 15 = .ok (.aload_n 0, 1) := by decide +kernel
theorem dX11_goals_16 : decode cX11_goals 16 = .ok (.getfield 24, 3) := by decide +kernel
theorem dX11_goals_19 : decode cX11_goals 19 = .ok (.iload_n 1, 1) := by decide +kernel
theorem dX11_goals_20 : decode cX11_goals 20 = .ok (.iaload, 1) := by decide +kernel
theorem dX11_goals_21 : decode cX11_goals 21 = .ok (.if_icmp .ge 119, 3) := by decide +kernel
theorem dX11_goals_24 : decode cX11_goals 24 = .ok (.aload_n 0, 1) := by decide +kernel
theorem dX11_goals_25 : decode cX11_goals 25 = .ok (.getfield 63, 3) := by decide +kernel
theorem dX11_goals_28 : decode cX11_goals 28 = .ok (.iload 6, 2) := by decide +kernel
theorem dX11_goals_30 : decode cX11_goals 30 = .ok (.iaload, 1) := by decide +kernel
theorem dX11_goals_31 : decode cX11_goals 31 = .ok (.ifCond .ne 6, 3) := by decide +kernel
theorem dX11_goals_34 : decode cX11_goals 34 = .ok (.goto 100, 3) := by decide +kernel
theorem dX11_goals_37 : decode cX11_goals 37 = .ok (.iload_n 3, 1) := by decide +kernel
theorem dX11_goals_38 : decode cX11_goals 38 = .ok (.aload_n 0, 1) := by decide +kernel
theorem dX11_goals_39 : decode cX11_goals 39 = .ok (.iload_n 1, 1) := by decide +kernel
theorem dX11_goals_40 : decode cX11_goals 40 = .ok (.iload 6, 2) := by decide +kernel
theorem dX11_goals_42 : decode cX11_goals 42 = .ok (.iconst 0, 1) := by decide +kernel
theorem dX11_goals_43 : decode cX11_goals 43 = .ok (.invokevirtual 168, 3) := by decide +kernel
theorem dX11_goals_46 : decode cX11_goals 46 = .ok (.aload_n 0, 1) := by decide +kernel
theorem dX11_goals_47 : decode cX11_goals 47 = .ok (.iload_n 1, 1) := by decide +kernel
theorem dX11_goals_48 : decode cX11_goals 48 = .ok (.iload 6, 2) := by decide +kernel
theorem dX11_goals_50 : decode cX11_goals 50 = .ok (.iconst 2, 1) := by decide +kernel
theorem dX11_goals_51 : decode cX11_goals 51 = .ok (.invokevirtual 168, 3) := by decide +kernel
theorem dX11_goals_54 : decode cX11_goals 54 = .ok (.invokestatic 208, 3) := by decide +kernel
theorem dX11_goals_57 : decode cX11_goals 57 = .ok (.istore 7, 2) := by decide +kernel
theorem dX11_goals_59 : decode cX11_goals 59 = .ok (.iload 4, 2) := by decide +kernel
theorem dX11_goals_61 : decode cX11_goals 61 = .ok (.aload_n 0, 1) := by decide +kernel
theorem dX11_goals_62 : decode cX11_goals 62 = .ok (.iload_n 1, 1) := by decide +kernel
theorem dX11_goals_63 : decode cX11_goals 63 = .ok (.iload 6, 2) := by decide +kernel
theorem dX11_goals_65 : decode cX11_goals 65 = .ok (.iconst 1, 1) := by decide +kernel
theorem dX11_goals_66 : decode cX11_goals 66 = .ok (.invokevirtual 168, 3) := by decide +kernel
theorem dX11_goals_69 : decode cX11_goals 69 = .ok (.aload_n 0, 1) := by decide +kernel
theorem dX11_goals_70 : decode cX11_goals 70 = .ok (.iload_n 1, 1) := by decide +kernel
theorem dX11_goals_71 : decode cX11_goals 71 = .ok (.iload 6, 2) := by decide +kernel
theorem dX11_goals_73 : decode cX11_goals 73 = .ok (.iconst 3, 1) := by decide +kernel
theorem dX11_goals_74 : decode cX11_goals 74 = .ok (.invokevirtual 168, 3) := by decide +kernel
theorem dX11_goals_77 : decode cX11_goals 77 = .ok (.invokestatic 208, 3) := by decide +kernel
theorem dX11_goals_80 : decode cX11_goals 80 = .ok (.istore 8, 2) := by decide +kernel
theorem dX11_goals_82 : decode cX11_goals 82 = .ok (.iload_n 3, 1) := by decide +kernel
theorem dX11_goals_83 : decode cX11_goals 83 = .ok (.iload 7, 2) := by decide +kernel
theorem dX11_goals_85 : decode cX11_goals 85 = .ok (.isub, 1) := by decide +kernel
theorem dX11_goals_86 : decode cX11_goals 86 = .ok (.iload_n 3, 1) := by decide +kernel
theorem dX11_goals_87 : decode cX11_goals 87 = .ok (.iload 7, 2) := by decide +kernel
theorem dX11_goals_89 : decode cX11_goals 89 = .ok (.isub, 1) := by decide +kernel
theorem dX11_goals_90 : decode cX11_goals 90 = .ok (.imul, 1) := by decide +kernel
theorem dX11_goals_91 : decode cX11_goals 91 = .ok (.iload 4, 2) := by decide +kernel
theorem dX11_goals_93 : decode cX11_goals 93 = .ok (.iload 8, 2) := by decide +kernel
theorem dX11_goals_95 : decode cX11_goals 95 = .ok (.isub, 1) := by decide +kernel
theorem dX11_goals_96 : decode cX11_goals 96 = .ok (.iload 4, 2) := by decide +kernel
theorem dX11_goals_98 : decode cX11_goals 98 = .ok (.iload 8, 2) := by decide +kernel
theorem dX11_goals_100 : decode cX11_goals 100 = .ok (.isub, 1) := by decide +kernel
theorem dX11_goals_101 : decode cX11_goals 101 = .ok (.imul, 1) := by decide +kernel
theorem dX11_goals_102 : decode cX11_goals 102 = .ok (.iadd, 1) := by decide +kernel
theorem dX11_goals_103 : decode cX11_goals 103 = .ok (.istore 9, 2) := by decide +kernel
theorem dX11_goals_105 : decode cX11_goals 105 = .ok (.iload 9, 2) := by decide +kernel
theorem dX11_goals_107 : decode cX11_goals 107 = .ok (.iload 5, 2) := by decide +kernel
theorem dX11_goals_109 : decode cX11_goals 109 = .ok (.if_icmp .ge 25, 3) := by decide +kernel
theorem dX11_goals_112 : decode cX11_goals 112 = .ok (.iload 9, 2) := by decide +kernel
theorem dX11_goals_114 : decode cX11_goals 114 = .ok (.istore 5, 2) := by decide +kernel
theorem dX11_goals_116 : decode cX11_goals 116 = .ok (.aload_n 0, 1) := by decide +kernel
theorem dX11_goals_117 : decode cX11_goals 117 = .ok (.iload 6, 2) := by decide +kernel
theorem dX11_goals_119 : decode cX11_goals 119 = .ok (.putfield 211, 3) := by decide +kernel
theorem dX11_goals_122 : decode cX11_goals 122 = .ok (.aload_n 0, 1) := by decide +kernel
theorem dX11_goals_123 : decode cX11_goals 123 = .ok (.iload 7, 2) := by decide +kernel
theorem dX11_goals_125 : decode cX11_goals 125 = .ok (.putfield 214, 3) := by decide +kernel
theorem dX11_goals_128 : decode cX11_goals 128 = .ok (.aload_n 0, 1) := by decide +kernel
theorem dX11_goals_129 : decode cX11_goals 129 = .ok (.iload 8, 2) := by decide +kernel
theorem dX11_goals_131 : decode cX11_goals 131 = .ok (.putfield 217, 3) := by decide +kernel
theorem dX11_goals_134 : decode cX11_goals 134 = .ok (.iinc 6 1, 3) := by decide +kernel
theorem dX11_goals_137 : decode cX11_goals 137 = .ok (.goto (-124), 3) := by decide +kernel
theorem dX11_goals_140 : decode cX11_goals 140 = .ok (.return_, 1) := by decide +kernel
theorem dX11_step_0 : decode cX11_step 0 = .ok (.aload_n 0, 1) := by decide +kernel
theorem dX11_step_1 : decode cX11_step 1 = .ok (.iload_n 1, 1) := by decide +kernel
theorem dX11_step_2 : decode cX11_step 2 = .ok (.iconst 0, 1) := by decide +kernel
theorem dX11_step_3 : decode cX11_step 3 = .ok (.invokevirtual 192, 3) := by decide +kernel
theorem dX11_step_6 : decode cX11_step 6 = .ok (.istore_n 2, 1) := by decide +kernel
theorem dX11_step_7 : decode cX11_step 7 = .ok (.aload_n 0, 1) := by decide +kernel
theorem dX11_step_8 : decode cX11_step 8 = .ok (.iload_n 1, 1) := by decide +kernel
theorem dX11_step_9 : decode cX11_step 9 = .ok (.iconst 1, 1) := by decide +kernel
theorem dX11_step_10 : decode cX11_step 10 = .ok (.invokevirtual 192, 3) := by decide +kernel
theorem dX11_step_13 : decode cX11_step 13 = .ok (.istore_n 3, 1) := by decide +kernel
theorem dX11_step_14 : decode cX11_step 14 = .ok (.aload_n 0, 1) := by decide +kernel
theorem dX11_step_15 : decode cX11_step 15 = .ok (.iload_n 1, 1) := by decide +kernel
theorem dX11_step_16 : decode cX11_step 16 = .ok (.iconst 2, 1) := by decide +kernel
theorem dX11_step_17 : decode cX11_step 17 = .ok (.invokevirtual 192, 3) := by decide +kernel
theorem dX11_step_20 : decode cX11_step 20 = .ok (.istore 4, 2) := by decide +kernel
theorem dX11_step_22 : decode cX11_step 22 = .ok (.aload_n 0, 1) := by decide +kernel
theorem dX11_step_23 : decode cX11_step 23 = .ok (.iload_n 1, 1) := by decide +kernel
theorem dX11_step_24 : decode cX11_step 24 = .ok (.invokevirtual 220, 3) := by decide +kernel
theorem dX11_step_27 : decode cX11_step 27 = .ok (.istore 5, 2) := by decide +kernel
theorem dX11_step_29 : decode cX11_step 29 = .ok (.iload 5, 2) := by decide +kernel
theorem dX11_step_31 : decode cX11_step 31 = .ok (.ifCond .ge 11, 3) := by decide +kernel
theorem dX11_step_34 : decode cX11_step 34 = .ok (.aload_n 0, 1) := by decide +kernel
theorem dX11_step_35 : decode cX11_step 35 = .ok (.iload_n 1, 1) := by decide +kernel
theorem dX11_step_36 : decode cX11_step 36 = .ok (.iconst 4, 1) := by decide +kernel
theorem dX11_step_37 : decode cX11_step 37 = .ok (.iconst 0, 1) := by decide +kernel
theorem dX11_step_38 : decode cX11_step 38 = .ok (.invokevirtual 223, 3) := by decide +kernel
theorem dX11_step_41 : decode cX11_step 41 = .ok (.return_, 1) := by decide +kernel
theorem dX11_step_42 : decode cX11_step 42 = .ok (.aload_n 0, 1) := by decide +kernel
theorem dX11_step_43 : decode cX11_step 43 = .ok (.iload_n 2, 1) := by decide +kernel
theorem dX11_step_44 : decode cX11_step 44 = .ok (.iload 5, 2) := by decide +kernel
theorem dX11_step_46 : decode cX11_step 46 = .ok (.aload_n 0, 1) := by decide +kernel
theorem dX11_step_47 : decode cX11_step 47 = .ok (.iload_n 1, 1) := by decide +kernel
theorem dX11_step_48 : decode cX11_step 48 = .ok (.iconst 5, 1) := by decide +kernel
theorem dX11_step_49 : decode cX11_step 49 = .ok (.invokevirtual 192, 3) := by decide +kernel
theorem dX11_step_52 : decode cX11_step 52 = .ok (.aload_n 0, 1) := by decide +kernel
theorem dX11_step_53 : decode cX11_step 53 = .ok (.iload_n 1, 1) := by decide +kernel
theorem dX11_step_54 : decode cX11_step 54 = .ok (.bipush 6, 2) := by decide +kernel
theorem dX11_step_56 : decode cX11_step 56 = .ok (.invokevirtual 192, 3) := by decide +kernel
theorem dX11_step_59 : decode cX11_step 59 = .ok (.invokevirtual 226, 3) := by decide +kernel
theorem dX11_step_62 : decode cX11_step 62 = .ok (.iload_n 3, 1) := by decide +kernel
theorem dX11_step_63 : decode cX11_step 63 = .ok (.aload_n 0, 1) := by decide +kernel
theorem dX11_step_64 : decode cX11_step 64 = .ok (.getfield 214, 3) := by decide +kernel
theorem dX11_step_67 : decode cX11_step 67 = .ok (.if_icmp .ne 20, 3) := by decide +kernel
theorem dX11_step_70 : decode cX11_step 70 = .ok (.iload 4, 2) := by decide +kernel
theorem dX11_step_72 : decode cX11_step 72 = .ok (.aload_n 0, 1) := by decide +kernel
theorem dX11_step_73 : decode cX11_step 73 = .ok (.getfield 217, 3) := by decide +kernel
theorem dX11_step_76 : decode cX11_step 76 = .ok (.if_icmp .ne 11, 3) := by decide +kernel
theorem dX11_step_79 : decode cX11_step 79 = .ok (.aload_n 0, 1) := by decide +kernel
theorem dX11_step_80 : decode cX11_step 80 = .ok (.iload_n 1, 1) := by decide +kernel
theorem dX11_step_81 : decode cX11_step 81 = .ok (.iconst 4, 1) := by decide +kernel
theorem dX11_step_82 : decode cX11_step 82 = .ok (.iconst 0, 1) := by decide +kernel
theorem dX11_step_83 : decode cX11_step 83 = .ok (.invokevirtual 223, 3) := by decide +kernel
theorem dX11_step_86 : decode cX11_step 86 = .ok (.return_, 1) := by decide +kernel
theorem dX11_step_87 : decode cX11_step 87 = .ok (.aload_n 0, 1) := by decide +kernel
theorem dX11_step_88 : decode cX11_step 88 = .ok (.getfield 214, 3) := by decide +kernel
theorem dX11_step_91 : decode cX11_step 91 = .ok (.istore 6, 2) := by decide +kernel
theorem dX11_step_93 : decode cX11_step 93 = .ok (.aload_n 0, 1) := by decide +kernel
theorem dX11_step_94 : decode cX11_step 94 = .ok (.getfield 217, 3) := by decide +kernel
theorem dX11_step_97 : decode cX11_step 97 = .ok (.istore 7, 2) := by decide +kernel
theorem dX11_step_99 : decode cX11_step 99 = .ok (.iload 5, 2) := by decide +kernel
theorem dX11_step_101 : decode cX11_step 101 = .ok (.istore 8, 2) := by decide +kernel
theorem dX11_step_103 : decode cX11_step 103 = .ok (.aload_n 0, 1) := by decide +kernel
theorem dX11_step_104 : decode cX11_step 104 = .ok (.iload_n 2, 1) := by decide +kernel
theorem dX11_step_105 : decode cX11_step 105 = .ok (.iload 5, 2) := by decide +kernel
theorem dX11_step_107 : decode cX11_step 107 = .ok (.aload_n 0, 1) := by decide +kernel
theorem dX11_step_108 : decode cX11_step 108 = .ok (.getfield 214, 3) := by decide +kernel
theorem dX11_step_111 : decode cX11_step 111 = .ok (.aload_n 0, 1) := by decide +kernel
theorem dX11_step_112 : decode cX11_step 112 = .ok (.getfield 217, 3) := by decide +kernel
theorem dX11_step_115 : decode cX11_step 115 = .ok (.invokevirtual 188, 3) := by decide +kernel
theorem dX11_step_118 : decode cX11_step 118 = .ok (.ifCond .ne 117, 3) := by decide +kernel
theorem dX11_step_121 : decode cX11_step 121 = .ok (.aload_n 0, 1) := by decide +kernel
theorem dX11_step_122 : decode cX11_step 122 = .ok (.iload_n 2, 1) := by decide +kernel
theorem dX11_step_123 : decode cX11_step 123 = .ok (.aload_n 0, 1) := by decide +kernel
theorem dX11_step_124 : decode cX11_step 124 = .ok (.getfield 211, 3) := by decide +kernel
theorem dX11_step_127 : decode cX11_step 127 = .ok (.invokevirtual 202, 3) := by decide +kernel
theorem dX11_step_130 : decode cX11_step 130 = .ok (.iconst 0, 1) := by decide +kernel
theorem dX11_step_131 : decode cX11_step 131 = .ok (.istore 8, 2) := by decide +kernel
theorem dX11_step_133 : decode cX11_step 133 = .ok (.aload_n 0, 1) := by decide +kernel
theorem dX11_step_134 : decode cX11_step 134 = .ok (.getfield 63, 3) := by decide +kernel
theorem dX11_step_137 : decode cX11_step 137 = .ok (.iload 8, 2) := by decide +kernel
theorem dX11_step_139 : decode cX11_step 139 = .ok (.iaload, 1) := by decide +kernel
theorem dX11_step_140 : decode cX11_step 140 = .ok (.ifCond .le 44, 3) := by decide +kernel
theorem dX11_step_143 : decode cX11_step 143 = .ok (.aload_n 0, 1) := by decide +kernel
theorem dX11_step_144 : decode cX11_step 144 = .ok (.getfield 63, 3) := by decide +kernel
theorem dX11_step_147 : decode cX11_step 147 = .ok (.iload 8, 2) := by decide +kernel
theorem dX11_step_149 : decode cX11_step 149 = .ok (.iaload, 1) := by decide +kernel
theorem dX11_step_150 : decode cX11_step 150 = .ok (.aload_n 0, 1) := by decide +kernel
theorem dX11_step_151 : decode cX11_step 151 = .ok (.getfield 63, 3) := by decide +kernel
theorem dX11_step_154 : decode cX11_step 154 = .ok (.iload 5, 2) := by decide +kernel
theorem dX11_step_156 : decode cX11_step 156 = .ok (.iaload, 1) := by decide +kernel
theorem dX11_step_157 : decode cX11_step 157 = .ok (.iconst 1, 1) := by decide +kernel
theorem dX11_step_158 : decode cX11_step 158 = .ok (.isub, 1) := by decide +kernel
theorem dX11_step_159 : decode cX11_step 159 = .ok (.if_icmp .ne 25, 3) := by decide +kernel
theorem dX11_step_162 : decode cX11_step 162 = .ok (.aload_n 0, 1) := by decide +kernel
theorem dX11_step_163 : decode cX11_step 163 = .ok (.iload_n 2, 1) := by decide +kernel
theorem dX11_step_164 : decode cX11_step 164 = .ok (.iload 8, 2) := by decide +kernel
theorem dX11_step_166 : decode cX11_step 166 = .ok (.invokevirtual 184, 3) := by decide +kernel
theorem dX11_step_169 : decode cX11_step 169 = .ok (.ifCond .eq 15, 3) := by decide +kernel
theorem dX11_step_172 : decode cX11_step 172 = .ok (.aload_n 0, 1) := by decide +kernel
theorem dX11_step_173 : decode cX11_step 173 = .ok (.iload_n 2, 1) := by decide +kernel
theorem dX11_step_174 : decode cX11_step 174 = .ok (.iload 5, 2) := by decide +kernel
theorem dX11_step_176 : decode cX11_step 176 = .ok (.iload 8, 2) := by decide +kernel
theorem dX11_step_178 : decode cX11_step 178 = .ok (.invokevirtual 198, 3) := by decide +kernel
theorem dX11_step_181 : decode cX11_step 181 = .ok (.ifCond .ne 9, 3) := by decide +kernel
theorem dX11_step_184 : decode cX11_step 184 = .ok (.iinc 8 1, 3) := by decide +kernel
theorem dX11_step_187 : decode cX11_step 187 = .ok (.goto (-54), 3) := by decide +kernel
theorem dX11_step_190 : decode cX11_step 190 = .ok (.iload_n 3, 1) := by decide +kernel
theorem dX11_step_191 : decode cX11_step 191 = .ok (.aload_n 0, 1) := by decide +kernel
theorem dX11_step_192 : decode cX11_step 192 = .ok (.iload_n 2, 1) := by decide +kernel
theorem dX11_step_193 : decode cX11_step 193 = .ok (.iload 8, 2) := by decide +kernel
theorem dX11_step_195 : decode cX11_step 195 = .ok (.iconst 0, 1) := by decide +kernel
theorem dX11_step_196 : decode cX11_step 196 = .ok (.invokevirtual 168, 3) := by decide +kernel
theorem dX11_step_199 : decode cX11_step 199 = .ok (.aload_n 0, 1) := by decide +kernel
theorem dX11_step_200 : decode cX11_step 200 = .ok (.iload_n 2, 1) := by decide +kernel
theorem dX11_step_201 : decode cX11_step 201 = .ok (.iload 8, 2) := by decide +kernel
theorem dX11_step_203 : decode cX11_step 203 = .ok (.iconst 2, 1) := by decide +kernel
theorem dX11_step_204 : decode cX11_step 204 = .ok (.invokevirtual 168, 3) := by decide +kernel
theorem dX11_step_207 : decode cX11_step 207 = .ok (.invokestatic 208, 3) := by decide +kernel
theorem dX11_step_210 : decode cX11_step 210 = .ok (.istore 6, 2) := by decide +kernel
theorem dX11_step_212 : decode cX11_step 212 = .ok (.iload 4, 2) := by decide +kernel
theorem dX11_step_214 : decode cX11_step 214 = .ok (.aload_n 0, 1) := by decide +kernel
theorem dX11_step_215 : decode cX11_step 215 = .ok (.iload_n 2, 1) := by decide +kernel
theorem dX11_step_216 : decode cX11_step 216 = .ok (.iload 8, 2) := by decide +kernel
theorem dX11_step_218 : decode cX11_step 218 = .ok (.iconst 1, 1) := by decide +kernel
theorem dX11_step_219 : decode cX11_step 219 = .ok (.invokevirtual 168, 3) := by decide +kernel
theorem dX11_step_222 : decode cX11_step 222 = .ok (.aload_n 0, 1) := by decide +kernel
theorem dX11_step_223 : decode cX11_step 223 = .ok (.iload_n 2, 1) := by decide +kernel
theorem dX11_step_224 : decode cX11_step 224 = .ok (.iload 8, 2) := by decide +kernel
theorem dX11_step_226 : decode cX11_step 226 = .ok (.iconst 3, 1) := by decide +kernel
theorem dX11_step_227 : decode cX11_step 227 = .ok (.invokevirtual 168, 3) := by decide +kernel
theorem dX11_step_230 : decode cX11_step 230 = .ok (.invokestatic 208, 3) := by decide +kernel
theorem dX11_step_233 : decode cX11_step 233 = .ok (.istore 7, 2) := by decide +kernel
theorem dX11_step_235 : decode cX11_step 235 = .ok (.iload 6, 2) := by decide +kernel
theorem dX11_step_237 : decode cX11_step 237 = .ok (.iload_n 3, 1) := by decide +kernel
theorem dX11_step_238 : decode cX11_step 238 = .ok (.isub, 1) := by decide +kernel
theorem dX11_step_239 : decode cX11_step 239 = .ok (.invokestatic 230, 3) := by decide +kernel
theorem dX11_step_242 : decode cX11_step 242 = .ok (.istore 9, 2) := by decide +kernel
theorem dX11_step_244 : decode cX11_step 244 = .ok (.iload 9, 2) := by decide +kernel
theorem dX11_step_246 : decode cX11_step 246 = .ok (.ifCond .eq 48, 3) := by decide +kernel
theorem dX11_step_249 : decode cX11_step 249 = .ok (.aload_n 0, 1) := by decide +kernel
theorem dX11_step_250 : decode cX11_step 250 = .ok (.iload_n 2, 1) := by decide +kernel
theorem dX11_step_251 : decode cX11_step 251 = .ok (.iload 5, 2) := by decide +kernel
theorem dX11_step_253 : decode cX11_step 253 = .ok (.iload_n 3, 1) := by decide +kernel
theorem dX11_step_254 : decode cX11_step 254 = .ok (.iload 9, 2) := by decide +kernel
theorem dX11_step_256 : decode cX11_step 256 = .ok (.iadd, 1) := by decide +kernel
theorem dX11_step_257 : decode cX11_step 257 = .ok (.iload 4, 2) := by decide +kernel
theorem dX11_step_259 : decode cX11_step 259 = .ok (.invokevirtual 188, 3) := by decide +kernel
theorem dX11_step_262 : decode cX11_step 262 = .ok (.ifCond .ne 19, 3) := by decide +kernel
theorem dX11_step_265 : decode cX11_step 265 = .ok (.aload_n 0, 1) := by decide +kernel
theorem dX11_step_266 : decode cX11_step 266 = .ok (.iload_n 2, 1) := by decide +kernel
theorem dX11_step_267 : decode cX11_step 267 = .ok (.iload 8, 2) := by decide +kernel
theorem dX11_step_269 : decode cX11_step 269 = .ok (.iload_n 3, 1) := by decide +kernel
theorem dX11_step_270 : decode cX11_step 270 = .ok (.iload 9, 2) := by decide +kernel
theorem dX11_step_272 : decode cX11_step 272 = .ok (.iadd, 1) := by decide +kernel
theorem dX11_step_273 : decode cX11_step 273 = .ok (.iload 4, 2) := by decide +kernel
theorem dX11_step_275 : decode cX11_step 275 = .ok (.invokevirtual 188, 3) := by decide +kernel
theorem dX11_step_278 : decode cX11_step 278 = .ok (.ifCond .eq 16, 3) := by decide +kernel
theorem dX11_step_281 : decode cX11_step 281 = .ok (.aload_n 0, 1) := by decide +kernel
theorem dX11_step_282 : decode cX11_step 282 = .ok (.iload_n 1, 1) := by decide +kernel
theorem dX11_step_283 : decode cX11_step 283 = .ok (.iconst 1, 1) := by decide +kernel
theorem dX11_step_284 : decode cX11_step 284 = .ok (.iload_n 3, 1) := by decide +kernel
theorem dX11_step_285 : decode cX11_step 285 = .ok (.iload 9, 2) := by decide +kernel
theorem dX11_step_287 : decode cX11_step 287 = .ok (.iadd, 1) := by decide +kernel
theorem dX11_step_288 : decode cX11_step 288 = .ok (.invokevirtual 223, 3) := by decide +kernel
theorem dX11_step_291 : decode cX11_step 291 = .ok (.goto 20, 3) := by decide +kernel
theorem dX11_step_294 : decode cX11_step 294 = .ok (.aload_n 0, 1) := by decide +kernel
theorem dX11_step_295 : decode cX11_step 295 = .ok (.iload_n 1, 1) := by decide +kernel
theorem dX11_step_296 : decode cX11_step 296 = .ok (.iconst 2, 1) := by decide +kernel
theorem dX11_step_297 : decode cX11_step 297 = .ok (.iload 4, 2) := by decide +kernel
theorem dX11_step_299 : decode cX11_step 299 = .ok (.iload 7, 2) := by decide +kernel
theorem dX11_step_301 : decode cX11_step 301 = .ok (.iload 4, 2) := by decide +kernel
theorem dX11_step_303 : decode cX11_step 303 = .ok (.isub, 1) := by decide +kernel
theorem dX11_step_304 : decode cX11_step 304 = .ok (.invokestatic 230, 3) := by decide +kernel
theorem dX11_step_307 : decode cX11_step 307 = .ok (.iadd, 1) := by decide +kernel
theorem dX11_step_308 : decode cX11_step 308 = .ok (.invokevirtual 223, 3) := by decide +kernel
theorem dX11_step_311 : decode cX11_step 311 = .ok (.return_, 1) := by decide +kernel
theorem dX11_byteOf_0 : decode cX11_byteOf 0 = .ok (.aload_n 0, 1) := by decide +kernel
theorem dX11_byteOf_1 : decode cX11_byteOf 1 = .ok (.aload_n 0, 1) := by decide +kernel
theorem dX11_byteOf_2 : decode cX11_byteOf 2 = .ok (.getfield 233, 3) := by decide +kernel
theorem dX11_byteOf_5 : decode cX11_byteOf 5 = .ok (.iconst 0, 1) := by decide +kernel
theorem dX11_byteOf_6 : decode cX11_byteOf 6 = .ok (.invokevirtual 158, 3) := by decide +kernel
theorem dX11_byteOf_9 : decode cX11_byteOf 9 = .ok (.istore_n 1, 1) := by decide +kernel
theorem dX11_byteOf_10 : decode cX11_byteOf 10 = .ok (.aload_n 0, 1) := by decide +kernel
theorem dX11_byteOf_11 : decode cX11_byteOf 11 = .ok (.getfield 236, 3) := by decide +kernel
theorem dX11_byteOf_14 : decode cX11_byteOf 14 = .ok (.ifCond .ne 16, 3) := by decide +kernel
theorem dX11_byteOf_17 : decode cX11_byteOf 17 = .ok (.aload_n 0, 1) := by decide +kernel
theorem dX11_byteOf_18 : decode cX11_byteOf 18 = .ok (.getfield 239, 3) := by decide +kernel
theorem dX11_byteOf_21 : decode cX11_byteOf 21 = .ok (.aload_n 0, 1) := by decide +kernel
theorem dX11_byteOf_22 : decode cX11_byteOf 22 = .ok (.getfield 33, 3) := by decide +kernel
theorem dX11_byteOf_25 : decode cX11_byteOf 25 = .ok (.iload_n 1, 1) := by decide +kernel
theorem dX11_byteOf_26 : decode cX11_byteOf 26 = .ok (.iaload, 1) := by decide +kernel
theorem dX11_byteOf_27 : decode cX11_byteOf 27 = .ok (.if_icmp .lt 10, 3) := by decide +kernel
theorem dX11_byteOf_30 : decode cX11_byteOf 30 = .ok (.aload_n 0, 1) := by decide +kernel
theorem dX11_byteOf_31 : decode cX11_byteOf 31 = .ok (.iconst 1, 1) := by decide +kernel
theorem dX11_byteOf_32 : decode cX11_byteOf 32 = .ok (.putfield 236, 3) := by decide +kernel
theorem dX11_byteOf_35 : decode cX11_byteOf 35 = .ok (.iconst 0, 1) := by decide +kernel
theorem dX11_byteOf_36 : decode cX11_byteOf 36 = .ok (.ireturn, 1) := by decide +kernel
theorem dX11_byteOf_37 : decode cX11_byteOf 37 = .ok (.aload_n 0, 1) := by decide +kernel
theorem dX11_byteOf_38 : decode cX11_byteOf 38 = .ok (.dup, 1) := by decide +kernel
theorem dX11_byteOf_39 : decode cX11_byteOf 39 = .ok (.getfield 239, 3) := by decide +kernel
theorem dX11_byteOf_42 : decode cX11_byteOf 42 = .ok (.iconst 1, 1) := by decide +kernel
theorem dX11_byteOf_43 : decode cX11_byteOf 43 = .ok (.iadd, 1) := by decide +kernel
theorem dX11_byteOf_44 : decode cX11_byteOf 44 = .ok (.putfield 239, 3) := by decide +kernel
theorem dX11_byteOf_47 : decode cX11_byteOf 47 = .ok (.aload_n 0, 1) := by decide +kernel
theorem dX11_byteOf_48 : decode cX11_byteOf 48 = .ok (.getfield 17, 3) := by decide +kernel
theorem dX11_byteOf_51 : decode cX11_byteOf 51 = .ok (.aload_n 0, 1) := by decide +kernel
theorem dX11_byteOf_52 : decode cX11_byteOf 52 = .ok (.getfield 30, 3) := by decide +kernel
theorem dX11_byteOf_55 : decode cX11_byteOf 55 = .ok (.iload_n 1, 1) := by decide +kernel
theorem dX11_byteOf_56 : decode cX11_byteOf 56 = .ok (.iaload, 1) := by decide +kernel
theorem dX11_byteOf_57 : decode cX11_byteOf 57 = .ok (.aload_n 0, 1) := by decide +kernel
theorem dX11_byteOf_58 : decode cX11_byteOf 58 = .ok (.getfield 239, 3) := by decide +kernel
theorem dX11_byteOf_61 : decode cX11_byteOf 61 = .ok (.iadd, 1) := by decide +kernel
theorem dX11_byteOf_62 : decode cX11_byteOf 62 = .ok (.iconst 1, 1) := by decide +kernel
theorem dX11_byteOf_63 : decode cX11_byteOf 63 = .ok (.isub, 1) := by decide +kernel
theorem dX11_byteOf_64 : decode cX11_byteOf 64 = .ok (.iaload, 1) := by decide +kernel
theorem dX11_byteOf_65 : decode cX11_byteOf 65 = .ok (.ireturn, 1) := by decide +kernel
theorem dX11_count2_0 : decode cX11_count2 0 = .ok (.aload_n 0, 1) := by decide +kernel
theorem dX11_count2_1 : decode cX11_count2 1 = .ok (.invokevirtual 242, 3) := by decide +kernel
theorem dX11_count2_4 : decode cX11_count2 4 = .ok (.istore_n 1, 1) := by decide +kernel
theorem dX11_count2_5 : decode cX11_count2 5 = .ok (.iload_n 1, 1) := by decide +kernel
theorem dX11_count2_6 : decode cX11_count2 6 = .ok (.bipush 8, 2) := by decide +kernel
theorem dX11_count2_8 : decode cX11_count2 8 = .ok (.ishl, 1) := by decide +kernel
theorem dX11_count2_9 : decode cX11_count2 9 = .ok (.aload_n 0, 1) := by decide +kernel
theorem dX11_count2_10 : decode cX11_count2 10 = .ok (.invokevirtual 242, 3) := by decide +kernel
theorem dX11_count2_13 : decode cX11_count2 13 = .ok (.ior, 1) := by decide +kernel
theorem dX11_count2_14 : decode cX11_count2 14 = .ok (.ireturn, 1) := by decide +kernel
theorem dX11_named_0 : decode cX11_named 0 = .ok (.aload_n 0, 1) := by decide +kernel
theorem dX11_named_1 : decode cX11_named 1 = .ok (.invokevirtual 242, 3) := by decide +kernel
theorem dX11_named_4 : decode cX11_named 4 = .ok (.istore_n 2, 1) := by decide +kernel
theorem dX11_named_5 : decode cX11_named 5 = .ok (.iload_n 1, 1) := by decide +kernel
theorem dX11_named_6 : decode cX11_named 6 = .ok (.iconst 1, 1) := by decide +kernel
theorem dX11_named_7 : decode cX11_named 7 = .ok (.if_icmp .ne 15, 3) := by decide +kernel
theorem dX11_named_10 : decode cX11_named 10 = .ok (.iload_n 2, 1) := by decide +kernel
theorem dX11_named_11 : decode cX11_named 11 = .ok (.i2l, 1) := by decide +kernel
theorem dX11_named_12 : decode cX11_named 12 = .ok (.lconst 0, 1) := by decide +kernel
theorem dX11_named_13 : decode cX11_named 13 = .ok (.ldc2_w 245, 3) := by decide +kernel
theorem dX11_named_16 : decode cX11_named 16 = .ok (.invokestatic 72, 3) := by decide +kernel
theorem dX11_named_19 : decode cX11_named 19 = .ok (.ifCond .eq 20, 3) := by decide +kernel
theorem dX11_named_22 : decode cX11_named 22 = .ok (.iload_n 1, 1) := by decide +kernel
theorem dX11_named_23 : decode cX11_named 23 = .ok (.iconst 2, 1) := by decide +kernel
theorem dX11_named_24 : decode cX11_named 24 = .ok (.if_icmp .ne 20, 3) := by decide +kernel
theorem dX11_named_27 : decode cX11_named 27 = .ok (.iload_n 2, 1) := by decide +kernel
theorem dX11_named_28 : decode cX11_named 28 = .ok (.i2l, 1) := by decide +kernel
theorem dX11_named_29 : decode cX11_named 29 = .ok (.lconst 0, 1) := by decide +kernel
theorem dX11_named_30 : decode cX11_named 30 = .ok (.ldc2_w 247, 3) := by decide +kernel
theorem dX11_named_33 : decode cX11_named 33 = .ok (.invokestatic 72, 3) := by decide +kernel
theorem dX11_named_36 : decode cX11_named 36 = .ok (.ifCond .ne 8, 3) := by decide +kernel
theorem dX11_named_39 : decode cX11_named 39 = .ok (.aload_n 0, 1) := by decide +kernel
end
section
theorem dX11_named_40 : decode cX11_named 40 = .ok (.iconst 1, 1) := by decide +kernel
theorem dX11_named_41 : decode cX11_named 41 = .ok (.putfield 236, 3) := by decide +kernel
theorem dX11_named_44 : decode cX11_named 44 = .ok (.aload_n 0, 1) := by decide +kernel
theorem dX11_named_45 : decode cX11_named 45 = .ok (.getfield 236, 3) := by decide +kernel
theorem dX11_named_48 : decode cX11_named 48 = .ok (.ifCond .eq 7, 3) := by decide +kernel
theorem dX11_named_51 : decode cX11_named 51 = .ok (.iconst 0, 1) := by decide +kernel
theorem dX11_named_52 : decode cX11_named 52 = .ok (.goto 30, 3) := by decide +kernel
theorem dX11_named_55 : decode cX11_named 55 = .ok (.iload_n 1, 1) := by decide +kernel
theorem dX11_named_56 : decode cX11_named 56 = .ok (.iconst 1, 1) := by decide +kernel
theorem dX11_named_57 : decode cX11_named 57 = .ok (.if_icmp .ne 10, 3) := by decide +kernel
theorem dX11_named_60 : decode cX11_named 60 = .ok (.bipush 6, 2) := by decide +kernel
theorem dX11_named_62 : decode cX11_named 62 = .ok (.iload_n 2, 1) := by decide +kernel
theorem dX11_named_63 : decode cX11_named 63 = .ok (.iadd, 1) := by decide +kernel
theorem dX11_named_64 : decode cX11_named 64 = .ok (.goto 18, 3) := by decide +kernel
theorem dX11_named_67 : decode cX11_named 67 = .ok (.bipush 70, 2) := by decide +kernel
theorem dX11_named_69 : decode cX11_named 69 = .ok (.bipush 10, 2) := by decide +kernel
theorem dX11_named_71 : decode cX11_named 71 = .ok (.aload_n 0, 1) := by decide +kernel
theorem dX11_named_72 : decode cX11_named 72 = .ok (.getfield 233, 3) := by decide +kernel
theorem dX11_named_75 : decode cX11_named 75 = .ok (.imul, 1) := by decide +kernel
theorem dX11_named_76 : decode cX11_named 76 = .ok (.iadd, 1) := by decide +kernel
theorem dX11_named_77 : decode cX11_named 77 = .ok (.bipush 6, 2) := by decide +kernel
theorem dX11_named_79 : decode cX11_named 79 = .ok (.iadd, 1) := by decide +kernel
theorem dX11_named_80 : decode cX11_named 80 = .ok (.iload_n 2, 1) := by decide +kernel
theorem dX11_named_81 : decode cX11_named 81 = .ok (.iadd, 1) := by decide +kernel
theorem dX11_named_82 : decode cX11_named 82 = .ok (.ireturn, 1) := by decide +kernel
theorem dX11_value_0 : decode cX11_value 0 = .ok (.aload_n 0, 1) := by decide +kernel
theorem dX11_value_1 : decode cX11_value 1 = .ok (.invokevirtual 242, 3) := by decide +kernel
theorem dX11_value_4 : decode cX11_value 4 = .ok (.istore_n 1, 1) := by decide +kernel
theorem dX11_value_5 : decode cX11_value 5 = .ok (.iload_n 1, 1) := by decide +kernel
theorem dX11_value_6 : decode cX11_value 6 = .ok (.iconst 2, 1) := by decide +kernel
theorem dX11_value_7 : decode cX11_value 7 = .ok (.if_icmp .le 8, 3) := by decide +kernel
theorem dX11_value_10 : decode cX11_value 10 = .ok (.aload_n 0, 1) := by decide +kernel
theorem dX11_value_11 : decode cX11_value 11 = .ok (.iconst 1, 1) := by decide +kernel
theorem dX11_value_12 : decode cX11_value 12 = .ok (.putfield 236, 3) := by decide +kernel
theorem dX11_value_15 : decode cX11_value 15 = .ok (.aload_n 0, 1) := by decide +kernel
theorem dX11_value_16 : decode cX11_value 16 = .ok (.getfield 236, 3) := by decide +kernel
theorem dX11_value_19 : decode cX11_value 19 = .ok (.ifCond .eq 5, 3) := by decide +kernel
theorem dX11_value_22 : decode cX11_value 22 = .ok (.iconst 0, 1) := by decide +kernel
theorem dX11_value_23 : decode cX11_value 23 = .ok (.ireturn, 1) := by decide +kernel
theorem dX11_value_24 : decode cX11_value 24 = .ok (.iload_n 1, 1) := by decide +kernel
theorem dX11_value_25 : decode cX11_value 25 = .ok (.ifCond .ne 11, 3) := by decide +kernel
theorem dX11_value_28 : decode cX11_value 28 = .ok (.aload_n 0, 1) := by decide +kernel
theorem dX11_value_29 : decode cX11_value 29 = .ok (.invokevirtual 249, 3) := by decide +kernel
theorem dX11_value_32 : decode cX11_value 32 = .ok (.i2s, 1) := by decide +kernel
theorem dX11_value_33 : decode cX11_value 33 = .ok (.goto 13, 3) := by decide +kernel
theorem dX11_value_36 : decode cX11_value 36 = .ok (.aload_n 0, 1) := by decide +kernel
theorem dX11_value_37 : decode cX11_value 37 = .ok (.getfield 57, 3) := by decide +kernel
theorem dX11_value_40 : decode cX11_value 40 = .ok (.aload_n 0, 1) := by decide +kernel
theorem dX11_value_41 : decode cX11_value 41 = .ok (.iload_n 1, 1) := by decide +kernel
theorem dX11_value_42 : decode cX11_value 42 = .ok (.invokevirtual 252, 3) := by decide +kernel
theorem dX11_value_45 : decode cX11_value 45 = .ok (.iaload, 1) := by decide +kernel
theorem dX11_value_46 : decode cX11_value 46 = .ok (.ireturn, 1) := by decide +kernel
theorem dX11_target_0 : decode cX11_target 0 = .ok (.aload_n 0, 1) := by decide +kernel
theorem dX11_target_1 : decode cX11_target 1 = .ok (.invokevirtual 242, 3) := by decide +kernel
theorem dX11_target_4 : decode cX11_target 4 = .ok (.istore_n 1, 1) := by decide +kernel
theorem dX11_target_5 : decode cX11_target 5 = .ok (.iload_n 1, 1) := by decide +kernel
theorem dX11_target_6 : decode cX11_target 6 = .ok (.i2l, 1) := by decide +kernel
theorem dX11_target_7 : decode cX11_target 7 = .ok (.lconst 1, 1) := by decide +kernel
theorem dX11_target_8 : decode cX11_target 8 = .ok (.ldc2_w 255, 3) := by decide +kernel
theorem dX11_target_11 : decode cX11_target 11 = .ok (.invokestatic 72, 3) := by decide +kernel
theorem dX11_target_14 : decode cX11_target 14 = .ok (.ifCond .ne 8, 3) := by decide +kernel
theorem dX11_target_17 : decode cX11_target 17 = .ok (.aload_n 0, 1) := by decide +kernel
theorem dX11_target_18 : decode cX11_target 18 = .ok (.iconst 1, 1) := by decide +kernel
theorem dX11_target_19 : decode cX11_target 19 = .ok (.putfield 236, 3) := by decide +kernel
theorem dX11_target_22 : decode cX11_target 22 = .ok (.aload_n 0, 1) := by decide +kernel
theorem dX11_target_23 : decode cX11_target 23 = .ok (.getfield 236, 3) := by decide +kernel
theorem dX11_target_26 : decode cX11_target 26 = .ok (.ifCond .eq 7, 3) := by decide +kernel
theorem dX11_target_29 : decode cX11_target 29 = .ok (.iconst 0, 1) := by decide +kernel
theorem dX11_target_30 : decode cX11_target 30 = .ok (.goto 8, 3) := by decide +kernel
theorem dX11_target_33 : decode cX11_target 33 = .ok (.aload_n 0, 1) := by decide +kernel
theorem dX11_target_34 : decode cX11_target 34 = .ok (.iload_n 1, 1) := by decide +kernel
theorem dX11_target_35 : decode cX11_target 35 = .ok (.invokevirtual 252, 3) := by decide +kernel
theorem dX11_target_38 : decode cX11_target 38 = .ok (.ireturn, 1) := by decide +kernel
theorem dX11_jump_0 : decode cX11_jump 0 = .ok (.aload_n 0, 1) := by decide +kernel
theorem dX11_jump_1 : decode cX11_jump 1 = .ok (.invokevirtual 249, 3) := by decide +kernel
theorem dX11_jump_4 : decode cX11_jump 4 = .ok (.istore_n 1, 1) := by decide +kernel
theorem dX11_jump_5 : decode cX11_jump 5 = .ok (.iload_n 1, 1) := by decide +kernel
theorem dX11_jump_6 : decode cX11_jump 6 = .ok (.aload_n 0, 1) := by decide +kernel
theorem dX11_jump_7 : decode cX11_jump 7 = .ok (.getfield 33, 3) := by decide +kernel
theorem dX11_jump_10 : decode cX11_jump 10 = .ok (.aload_n 0, 1) := by decide +kernel
theorem dX11_jump_11 : decode cX11_jump 11 = .ok (.aload_n 0, 1) := by decide +kernel
theorem dX11_jump_12 : decode cX11_jump 12 = .ok (.getfield 233, 3) := by decide +kernel
theorem dX11_jump_15 : decode cX11_jump 15 = .ok (.iconst 0, 1) := by decide +kernel
theorem dX11_jump_16 : decode cX11_jump 16 = .ok (.invokevirtual 158, 3) := by decide +kernel
theorem dX11_jump_19 : decode cX11_jump 19 = .ok (.iaload, 1) := by decide +kernel
theorem dX11_jump_20 : decode cX11_jump 20 = .ok (.if_icmp .lt 8, 3) := by decide +kernel
theorem dX11_jump_23 : decode cX11_jump 23 = .ok (.aload_n 0, 1) := by decide +kernel
theorem dX11_jump_24 : decode cX11_jump 24 = .ok (.iconst 1, 1) := by decide +kernel
theorem dX11_jump_25 : decode cX11_jump 25 = .ok (.putfield 236, 3) := by decide +kernel
theorem dX11_jump_28 : decode cX11_jump 28 = .ok (.iload_n 1, 1) := by decide +kernel
theorem dX11_jump_29 : decode cX11_jump 29 = .ok (.ireturn, 1) := by decide +kernel
theorem dX11_reads_0 : decode cX11_reads 0 = .ok (.aload_n 0, 1) := by decide +kernel
theorem dX11_reads_1 : decode cX11_reads 1 = .ok (.iload_n 1, 1) := by decide +kernel
theorem dX11_reads_2 : decode cX11_reads 2 = .ok (.ifCond .eq 10, 3) := by decide +kernel
theorem dX11_reads_5 : decode cX11_reads 5 = .ok (.aload_n 0, 1) := by decide +kernel
theorem dX11_reads_6 : decode cX11_reads 6 = .ok (.invokevirtual 257, 3) := by decide +kernel
theorem dX11_reads_9 : decode cX11_reads 9 = .ok (.goto 4, 3) := by decide +kernel
theorem dX11_reads_12 : decode cX11_reads 12 = .ok (.iconst 0, 1) := by decide +kernel
theorem dX11_reads_13 : decode cX11_reads 13 = .ok (.putfield 260, 3) := by decide +kernel
theorem dX11_reads_16 : decode cX11_reads 16 = .ok (.iconst 0, 1) := by decide +kernel
theorem dX11_reads_17 : decode cX11_reads 17 = .ok (.istore 4, 2) := by decide +kernel
theorem dX11_reads_19 : decode cX11_reads 19 = .ok (.iload 4, 2) := by decide +kernel
theorem dX11_reads_21 : decode cX11_reads 21 = .ok (.iload_n 2, 1) := by decide +kernel
theorem dX11_reads_22 : decode cX11_reads 22 = .ok (.if_icmp .ge 20, 3) := by decide +kernel
theorem dX11_reads_25 : decode cX11_reads 25 = .ok (.aload_n 0, 1) := by decide +kernel
theorem dX11_reads_26 : decode cX11_reads 26 = .ok (.getfield 66, 3) := by decide +kernel
theorem dX11_reads_29 : decode cX11_reads 29 = .ok (.iload 4, 2) := by decide +kernel
theorem dX11_reads_31 : decode cX11_reads 31 = .ok (.aload_n 0, 1) := by decide +kernel
theorem dX11_reads_32 : decode cX11_reads 32 = .ok (.invokevirtual 263, 3) := by decide +kernel
theorem dX11_reads_35 : decode cX11_reads 35 = .ok (.iastore, 1) := by decide +kernel
theorem dX11_reads_36 : decode cX11_reads 36 = .ok (.iinc 4 1, 3) := by decide +kernel
theorem dX11_reads_39 : decode cX11_reads 39 = .ok (.goto (-20), 3) := by decide +kernel
theorem dX11_reads_42 : decode cX11_reads 42 = .ok (.aload_n 0, 1) := by decide +kernel
theorem dX11_reads_43 : decode cX11_reads 43 = .ok (.iload_n 3, 1) := by decide +kernel
theorem dX11_reads_44 : decode cX11_reads 44 = .ok (.ifCond .eq 10, 3) := by decide +kernel
theorem dX11_reads_47 : decode cX11_reads 47 = .ok (.aload_n 0, 1) := by decide +kernel
theorem dX11_reads_48 : decode cX11_reads 48 = .ok (.invokevirtual 266, 3) := by decide +kernel
theorem dX11_reads_51 : decode cX11_reads 51 = .ok (.goto 4, 3) := by decide +kernel
theorem dX11_reads_54 : decode cX11_reads 54 = .ok (.iconst 0, 1) := by decide +kernel
theorem dX11_reads_55 : decode cX11_reads 55 = .ok (.putfield 269, 3) := by decide +kernel
theorem dX11_reads_58 : decode cX11_reads 58 = .ok (.return_, 1) := by decide +kernel
theorem dX11_readOrder_0 : decode cX11_readOrder 0 = .ok (.iload_n 1, 1) := by decide +kernel
theorem dX11_readOrder_1 : decode cX11_readOrder 1 = .ok (.tableswitch 208 0 33 #[151, 151, 152, 208, 208, 208, 208, 208, 160, 160, 168, 168, 168, 176, 184, 168, 192, 192, 192, 184, 168, 184, 168, 208, 208, 208, 208, 208, 208, 208, 208, 200, 208, 168], 151) := by decide +kernel
theorem dX11_readOrder_152 : decode cX11_readOrder 152 = .ok (.return_, 1) := by decide +kernel
theorem dX11_readOrder_153 : decode cX11_readOrder 153 = .ok (.aload_n 0, 1) := by decide +kernel
theorem dX11_readOrder_154 : decode cX11_readOrder 154 = .ok (.iconst 0, 1) := by decide +kernel
theorem dX11_readOrder_155 : decode cX11_readOrder 155 = .ok (.iconst 0, 1) := by decide +kernel
theorem dX11_readOrder_156 : decode cX11_readOrder 156 = .ok (.iconst 1, 1) := by decide +kernel
theorem dX11_readOrder_157 : decode cX11_readOrder 157 = .ok (.invokevirtual 272, 3) := by decide +kernel
theorem dX11_readOrder_160 : decode cX11_readOrder 160 = .ok (.return_, 1) := by decide +kernel
theorem dX11_readOrder_161 : decode cX11_readOrder 161 = .ok (.aload_n 0, 1) := by decide +kernel
theorem dX11_readOrder_162 : decode cX11_readOrder 162 = .ok (.iconst 0, 1) := by decide +kernel
theorem dX11_readOrder_163 : decode cX11_readOrder 163 = .ok (.iconst 2, 1) := by decide +kernel
theorem dX11_readOrder_164 : decode cX11_readOrder 164 = .ok (.iconst 1, 1) := by decide +kernel
theorem dX11_readOrder_165 : decode cX11_readOrder 165 = .ok (.invokevirtual 272, 3) := by decide +kernel
theorem dX11_readOrder_168 : decode cX11_readOrder 168 = .ok (.return_, 1) := by decide +kernel
theorem dX11_readOrder_169 : decode cX11_readOrder 169 = .ok (.aload_n 0, 1) := by decide +kernel
theorem dX11_readOrder_170 : decode cX11_readOrder 170 = .ok (.iconst 0, 1) := by decide +kernel
theorem dX11_readOrder_171 : decode cX11_readOrder 171 = .ok (.iconst 1, 1) := by decide +kernel
theorem dX11_readOrder_172 : decode cX11_readOrder 172 = .ok (.iconst 0, 1) := by decide +kernel
theorem dX11_readOrder_173 : decode cX11_readOrder 173 = .ok (.invokevirtual 272, 3) := by decide +kernel
theorem dX11_readOrder_176 : decode cX11_readOrder 176 = .ok (.return_, 1) := by decide +kernel
theorem dX11_readOrder_177 : decode cX11_readOrder 177 = .ok (.aload_n 0, 1) := by decide +kernel
theorem dX11_readOrder_178 : decode cX11_readOrder 178 = .ok (.iconst 0, 1) := by decide +kernel
theorem dX11_readOrder_179 : decode cX11_readOrder 179 = .ok (.iconst 4, 1) := by decide +kernel
theorem dX11_readOrder_180 : decode cX11_readOrder 180 = .ok (.iconst 0, 1) := by decide +kernel
theorem dX11_readOrder_181 : decode cX11_readOrder 181 = .ok (.invokevirtual 272, 3) := by decide +kernel
theorem dX11_readOrder_184 : decode cX11_readOrder 184 = .ok (.return_, 1) := by decide +kernel
theorem dX11_readOrder_185 : decode cX11_readOrder 185 = .ok (.aload_n 0, 1) := by decide +kernel
theorem dX11_readOrder_186 : decode cX11_readOrder 186 = .ok (.iconst 0, 1) := by decide +kernel
theorem dX11_readOrder_187 : decode cX11_readOrder 187 = .ok (.iconst 3, 1) := by decide +kernel
theorem dX11_readOrder_188 : decode cX11_readOrder 188 = .ok (.iconst 0, 1) := by decide +kernel
theorem dX11_readOrder_189 : decode cX11_readOrder 189 = .ok (.invokevirtual 272, 3) := by decide +kernel
theorem dX11_readOrder_192 : decode cX11_readOrder 192 = .ok (.return_, 1) := by decide +kernel
theorem dX11_readOrder_193 : decode cX11_readOrder 193 = .ok (.aload_n 0, 1) := by decide +kernel
theorem dX11_readOrder_194 : decode cX11_readOrder 194 = .ok (.iconst 0, 1) := by decide +kernel
theorem dX11_readOrder_195 : decode cX11_readOrder 195 = .ok (.iconst 2, 1) := by decide +kernel
theorem dX11_readOrder_196 : decode cX11_readOrder 196 = .ok (.iconst 0, 1) := by decide +kernel
theorem dX11_readOrder_197 : decode cX11_readOrder 197 = .ok (.invokevirtual 272, 3) := by decide +kernel
theorem dX11_readOrder_200 : decode cX11_readOrder 200 = .ok (.return_, 1) := by decide +kernel
theorem dX11_readOrder_201 : decode cX11_readOrder 201 = .ok (.aload_n 0, 1) := by decide +kernel
theorem dX11_readOrder_202 : decode cX11_readOrder 202 = .ok (.iconst 1, 1) := by decide +kernel
theorem dX11_readOrder_203 : decode cX11_readOrder 203 = .ok (.iconst 2, 1) := by decide +kernel
theorem dX11_readOrder_204 : decode cX11_readOrder 204 = .ok (.iconst 0, 1) := by decide +kernel
theorem dX11_readOrder_205 : decode cX11_readOrder 205 = .ok (.invokevirtual 272, 3) := by decide +kernel
theorem dX11_readOrder_208 : decode cX11_readOrder 208 = .ok (.return_, 1) := by decide +kernel
theorem dX11_readOrder_209 : decode cX11_readOrder 209 = .ok (.iload_n 1, 1) := by decide +kernel
theorem dX11_readOrder_210 : decode cX11_readOrder 210 = .ok (.i2l, 1) := by decide +kernel
theorem dX11_readOrder_211 : decode cX11_readOrder 211 = .ok (.ldc2_w 247, 3) := by decide +kernel
theorem dX11_readOrder_214 : decode cX11_readOrder 214 = .ok (.ldc2_w 276, 3) := by decide +kernel
theorem dX11_readOrder_217 : decode cX11_readOrder 217 = .ok (.invokestatic 72, 3) := by decide +kernel
theorem dX11_readOrder_220 : decode cX11_readOrder 220 = .ok (.ifCond .ne 23, 3) := by decide +kernel
theorem dX11_readOrder_223 : decode cX11_readOrder 223 = .ok (.iload_n 1, 1) := by decide +kernel
theorem dX11_readOrder_224 : decode cX11_readOrder 224 = .ok (.i2l, 1) := by decide +kernel
theorem dX11_readOrder_225 : decode cX11_readOrder 225 = .ok (.ldc2_w 278, 3) := by decide +kernel
theorem dX11_readOrder_228 : decode cX11_readOrder 228 = .ok (.ldc2_w 280, 3) := by decide +kernel
theorem dX11_readOrder_231 : decode cX11_readOrder 231 = .ok (.invokestatic 72, 3) := by decide +kernel
theorem dX11_readOrder_234 : decode cX11_readOrder 234 = .ok (.ifCond .ne 9, 3) := by decide +kernel
theorem dX11_readOrder_237 : decode cX11_readOrder 237 = .ok (.aload_n 0, 1) := by decide +kernel
theorem dX11_readOrder_238 : decode cX11_readOrder 238 = .ok (.iconst 1, 1) := by decide +kernel
theorem dX11_readOrder_239 : decode cX11_readOrder 239 = .ok (.putfield 236, 3) := by decide +kernel
theorem dX11_readOrder_242 : decode cX11_readOrder 242 = .ok (.return_, 1) := by decide +kernel
theorem dX11_readOrder_243 : decode cX11_readOrder 243 = .ok (.aload_n 0, 1) := by decide +kernel
theorem dX11_readOrder_244 : decode cX11_readOrder 244 = .ok (.iconst 1, 1) := by decide +kernel
theorem dX11_readOrder_245 : decode cX11_readOrder 245 = .ok (.iconst 1, 1) := by decide +kernel
theorem dX11_readOrder_246 : decode cX11_readOrder 246 = .ok (.iconst 0, 1) := by decide +kernel
theorem dX11_readOrder_247 : decode cX11_readOrder 247 = .ok (.invokevirtual 272, 3) := by decide +kernel
theorem dX11_readOrder_250 : decode cX11_readOrder 250 = .ok (.return_, 1) := by decide +kernel
theorem dX11_isByte_0 : decode cX11_isByte 0 = .ok (.iload_n 0, 1) := by decide +kernel
theorem dX11_isByte_1 : decode cX11_isByte 1 = .ok (.i2l, 1) := by decide +kernel
theorem dX11_isByte_2 : decode cX11_isByte 2 = .ok (.lconst 0, 1) := by decide +kernel
theorem dX11_isByte_3 : decode cX11_isByte 3 = .ok (.ldc2_w 282, 3) := by decide +kernel
theorem dX11_isByte_6 : decode cX11_isByte 6 = .ok (.invokestatic 72, 3) := by decide +kernel
theorem dX11_isByte_9 : decode cX11_isByte 9 = .ok (.ireturn, 1) := by decide +kernel
theorem dX11_may_0 : decode cX11_may 0 = .ok (.iload_n 1, 1) := by decide +kernel
theorem dX11_may_1 : decode cX11_may 1 = .ok (.tableswitch 423 7 31 #[115, 423, 423, 423, 423, 423, 130, 190, 233, 244, 280, 311, 352, 423, 423, 423, 369, 369, 369, 369, 369, 380, 380, 423, 391], 115) := by decide +kernel
theorem dX11_may_116 : decode cX11_may 116 = .ok (.aload_n 0, 1) := by decide +kernel
theorem dX11_may_117 : decode cX11_may 117 = .ok (.getfield 66, 3) := by decide +kernel
theorem dX11_may_120 : decode cX11_may 120 = .ok (.iconst 0, 1) := by decide +kernel
theorem dX11_may_121 : decode cX11_may 121 = .ok (.iaload, 1) := by decide +kernel
theorem dX11_may_122 : decode cX11_may 122 = .ok (.ifCond .eq 7, 3) := by decide +kernel
theorem dX11_may_125 : decode cX11_may 125 = .ok (.iconst 1, 1) := by decide +kernel
theorem dX11_may_126 : decode cX11_may 126 = .ok (.goto 4, 3) := by decide +kernel
theorem dX11_may_129 : decode cX11_may 129 = .ok (.iconst 0, 1) := by decide +kernel
theorem dX11_may_130 : decode cX11_may 130 = .ok (.ireturn, 1) := by decide +kernel
theorem dX11_may_131 : decode cX11_may 131 = .ok (.aload_n 0, 1) := by decide +kernel
theorem dX11_may_132 : decode cX11_may 132 = .ok (.aload_n 0, 1) := by decide +kernel
theorem dX11_may_133 : decode cX11_may 133 = .ok (.getfield 66, 3) := by decide +kernel
theorem dX11_may_136 : decode cX11_may 136 = .ok (.iconst 0, 1) := by decide +kernel
theorem dX11_may_137 : decode cX11_may 137 = .ok (.iaload, 1) := by decide +kernel
theorem dX11_may_138 : decode cX11_may 138 = .ok (.invokevirtual 284, 3) := by decide +kernel
theorem dX11_may_141 : decode cX11_may 141 = .ok (.ifCond .eq 48, 3) := by decide +kernel
theorem dX11_may_144 : decode cX11_may 144 = .ok (.aload_n 0, 1) := by decide +kernel
theorem dX11_may_145 : decode cX11_may 145 = .ok (.getfield 66, 3) := by decide +kernel
theorem dX11_may_148 : decode cX11_may 148 = .ok (.iconst 1, 1) := by decide +kernel
theorem dX11_may_149 : decode cX11_may 149 = .ok (.iaload, 1) := by decide +kernel
theorem dX11_may_150 : decode cX11_may 150 = .ok (.i2l, 1) := by decide +kernel
theorem dX11_may_151 : decode cX11_may 151 = .ok (.lconst 0, 1) := by decide +kernel
theorem dX11_may_152 : decode cX11_may 152 = .ok (.ldc2_w 166, 3) := by decide +kernel
theorem dX11_may_155 : decode cX11_may 155 = .ok (.invokestatic 72, 3) := by decide +kernel
theorem dX11_may_158 : decode cX11_may 158 = .ok (.ifCond .eq 31, 3) := by decide +kernel
theorem dX11_may_161 : decode cX11_may 161 = .ok (.aload_n 0, 1) := by decide +kernel
theorem dX11_may_162 : decode cX11_may 162 = .ok (.getfield 66, 3) := by decide +kernel
theorem dX11_may_165 : decode cX11_may 165 = .ok (.iconst 2, 1) := by decide +kernel
theorem dX11_may_166 : decode cX11_may 166 = .ok (.iaload, 1) := by decide +kernel
theorem dX11_may_167 : decode cX11_may 167 = .ok (.invokestatic 287, 3) := by decide +kernel
theorem dX11_may_170 : decode cX11_may 170 = .ok (.ifCond .eq 19, 3) := by decide +kernel
theorem dX11_may_173 : decode cX11_may 173 = .ok (.aload_n 0, 1) := by decide +kernel
theorem dX11_may_174 : decode cX11_may 174 = .ok (.getfield 66, 3) := by decide +kernel
theorem dX11_may_177 : decode cX11_may 177 = .ok (.iconst 3, 1) := by decide +kernel
theorem dX11_may_178 : decode cX11_may 178 = .ok (.iaload, 1) := by decide +kernel
theorem dX11_may_179 : decode cX11_may 179 = .ok (.invokestatic 287, 3) := by decide +kernel
theorem dX11_may_182 : decode cX11_may 182 = .ok (.ifCond .eq 7, 3) := by decide +kernel
theorem dX11_may_185 : decode cX11_may 185 = .ok (.iconst 1, 1) := by decide +kernel
theorem dX11_may_186 : decode cX11_may 186 = .ok (.goto 4, 3) := by decide +kernel
theorem dX11_may_189 : decode cX11_may 189 = .ok (.iconst 0, 1) := by decide +kernel
theorem dX11_may_190 : decode cX11_may 190 = .ok (.ireturn, 1) := by decide +kernel
theorem dX11_may_191 : decode cX11_may 191 = .ok (.aload_n 0, 1) := by decide +kernel
theorem dX11_may_192 : decode cX11_may 192 = .ok (.aload_n 0, 1) := by decide +kernel
theorem dX11_may_193 : decode cX11_may 193 = .ok (.getfield 66, 3) := by decide +kernel
theorem dX11_may_196 : decode cX11_may 196 = .ok (.iconst 0, 1) := by decide +kernel
theorem dX11_may_197 : decode cX11_may 197 = .ok (.iaload, 1) := by decide +kernel
theorem dX11_may_198 : decode cX11_may 198 = .ok (.invokevirtual 284, 3) := by decide +kernel
theorem dX11_may_201 : decode cX11_may 201 = .ok (.ifCond .eq 31, 3) := by decide +kernel
theorem dX11_may_204 : decode cX11_may 204 = .ok (.aload_n 0, 1) := by decide +kernel
theorem dX11_may_205 : decode cX11_may 205 = .ok (.getfield 66, 3) := by decide +kernel
theorem dX11_may_208 : decode cX11_may 208 = .ok (.iconst 1, 1) := by decide +kernel
theorem dX11_may_209 : decode cX11_may 209 = .ok (.iaload, 1) := by decide +kernel
theorem dX11_may_210 : decode cX11_may 210 = .ok (.invokestatic 287, 3) := by decide +kernel
theorem dX11_may_213 : decode cX11_may 213 = .ok (.ifCond .eq 19, 3) := by decide +kernel
theorem dX11_may_216 : decode cX11_may 216 = .ok (.aload_n 0, 1) := by decide +kernel
theorem dX11_may_217 : decode cX11_may 217 = .ok (.getfield 66, 3) := by decide +kernel
theorem dX11_may_220 : decode cX11_may 220 = .ok (.iconst 2, 1) := by decide +kernel
theorem dX11_may_221 : decode cX11_may 221 = .ok (.iaload, 1) := by decide +kernel
theorem dX11_may_222 : decode cX11_may 222 = .ok (.invokestatic 287, 3) := by decide +kernel
theorem dX11_may_225 : decode cX11_may 225 = .ok (.ifCond .eq 7, 3) := by decide +kernel
theorem dX11_may_228 : decode cX11_may 228 = .ok (.iconst 1, 1) := by decide +kernel
theorem dX11_may_229 : decode cX11_may 229 = .ok (.goto 4, 3) := by decide +kernel
theorem dX11_may_232 : decode cX11_may 232 = .ok (.iconst 0, 1) := by decide +kernel
theorem dX11_may_233 : decode cX11_may 233 = .ok (.ireturn, 1) := by decide +kernel
theorem dX11_may_234 : decode cX11_may 234 = .ok (.aload_n 0, 1) := by decide +kernel
theorem dX11_may_235 : decode cX11_may 235 = .ok (.aload_n 0, 1) := by decide +kernel
theorem dX11_may_236 : decode cX11_may 236 = .ok (.getfield 66, 3) := by decide +kernel
theorem dX11_may_239 : decode cX11_may 239 = .ok (.iconst 0, 1) := by decide +kernel
theorem dX11_may_240 : decode cX11_may 240 = .ok (.iaload, 1) := by decide +kernel
theorem dX11_may_241 : decode cX11_may 241 = .ok (.invokevirtual 284, 3) := by decide +kernel
theorem dX11_may_244 : decode cX11_may 244 = .ok (.ireturn, 1) := by decide +kernel
theorem dX11_may_245 : decode cX11_may 245 = .ok (.aload_n 0, 1) := by decide +kernel
theorem dX11_may_246 : decode cX11_may 246 = .ok (.aload_n 0, 1) := by decide +kernel
theorem dX11_may_247 : decode cX11_may 247 = .ok (.getfield 66, 3) := by decide +kernel
theorem dX11_may_250 : decode cX11_may 250 = .ok (.iconst 0, 1) := by decide +kernel
theorem dX11_may_251 : decode cX11_may 251 = .ok (.iaload, 1) := by decide +kernel
theorem dX11_may_252 : decode cX11_may 252 = .ok (.invokevirtual 284, 3) := by decide +kernel
theorem dX11_may_255 : decode cX11_may 255 = .ok (.ifCond .eq 24, 3) := by decide +kernel
theorem dX11_may_258 : decode cX11_may 258 = .ok (.aload_n 0, 1) := by decide +kernel
theorem dX11_may_259 : decode cX11_may 259 = .ok (.getfield 66, 3) := by decide +kernel
theorem dX11_may_262 : decode cX11_may 262 = .ok (.iconst 1, 1) := by decide +kernel
theorem dX11_may_263 : decode cX11_may 263 = .ok (.iaload, 1) := by decide +kernel
theorem dX11_may_264 : decode cX11_may 264 = .ok (.i2l, 1) := by decide +kernel
theorem dX11_may_265 : decode cX11_may 265 = .ok (.lconst 0, 1) := by decide +kernel
theorem dX11_may_266 : decode cX11_may 266 = .ok (.ldc2_w 290, 3) := by decide +kernel
theorem dX11_may_269 : decode cX11_may 269 = .ok (.invokestatic 72, 3) := by decide +kernel
theorem dX11_may_272 : decode cX11_may 272 = .ok (.ifCond .eq 7, 3) := by decide +kernel
theorem dX11_may_275 : decode cX11_may 275 = .ok (.iconst 1, 1) := by decide +kernel
theorem dX11_may_276 : decode cX11_may 276 = .ok (.goto 4, 3) := by decide +kernel
theorem dX11_may_279 : decode cX11_may 279 = .ok (.iconst 0, 1) := by decide +kernel
theorem dX11_may_280 : decode cX11_may 280 = .ok (.ireturn, 1) := by decide +kernel
theorem dX11_may_281 : decode cX11_may 281 = .ok (.aload_n 0, 1) := by decide +kernel
theorem dX11_may_282 : decode cX11_may 282 = .ok (.aload_n 0, 1) := by decide +kernel
theorem dX11_may_283 : decode cX11_may 283 = .ok (.getfield 66, 3) := by decide +kernel
theorem dX11_may_286 : decode cX11_may 286 = .ok (.iconst 0, 1) := by decide +kernel
theorem dX11_may_287 : decode cX11_may 287 = .ok (.iaload, 1) := by decide +kernel
theorem dX11_may_288 : decode cX11_may 288 = .ok (.invokevirtual 292, 3) := by decide +kernel
theorem dX11_may_291 : decode cX11_may 291 = .ok (.ifCond .eq 19, 3) := by decide +kernel
theorem dX11_may_294 : decode cX11_may 294 = .ok (.aload_n 0, 1) := by decide +kernel
theorem dX11_may_295 : decode cX11_may 295 = .ok (.getfield 66, 3) := by decide +kernel
theorem dX11_may_298 : decode cX11_may 298 = .ok (.iconst 1, 1) := by decide +kernel
theorem dX11_may_299 : decode cX11_may 299 = .ok (.iaload, 1) := by decide +kernel
theorem dX11_may_300 : decode cX11_may 300 = .ok (.invokestatic 287, 3) := by decide +kernel
theorem dX11_may_303 : decode cX11_may 303 = .ok (.ifCond .eq 7, 3) := by decide +kernel
theorem dX11_may_306 : decode cX11_may 306 = .ok (.iconst 1, 1) := by decide +kernel
theorem dX11_may_307 : decode cX11_may 307 = .ok (.goto 4, 3) := by decide +kernel
theorem dX11_may_310 : decode cX11_may 310 = .ok (.iconst 0, 1) := by decide +kernel
theorem dX11_may_311 : decode cX11_may 311 = .ok (.ireturn, 1) := by decide +kernel
theorem dX11_may_312 : decode cX11_may 312 = .ok (.aload_n 0, 1) := by decide +kernel
theorem dX11_may_313 : decode cX11_may 313 = .ok (.aload_n 0, 1) := by decide +kernel
theorem dX11_may_314 : decode cX11_may 314 = .ok (.getfield 66, 3) := by decide +kernel
theorem dX11_may_317 : decode cX11_may 317 = .ok (.iconst 0, 1) := by decide +kernel
theorem dX11_may_318 : decode cX11_may 318 = .ok (.iaload, 1) := by decide +kernel
theorem dX11_may_319 : decode cX11_may 319 = .ok (.invokevirtual 292, 3) := by decide +kernel
theorem dX11_may_322 : decode cX11_may 322 = .ok (.ifCond .eq 29, 3) := by decide +kernel
theorem dX11_may_325 : decode cX11_may 325 = .ok (.aload_n 0, 1) := by decide +kernel
theorem dX11_may_326 : decode cX11_may 326 = .ok (.getfield 66, 3) := by decide +kernel
theorem dX11_may_329 : decode cX11_may 329 = .ok (.iconst 1, 1) := by decide +kernel
theorem dX11_may_330 : decode cX11_may 330 = .ok (.iaload, 1) := by decide +kernel
theorem dX11_may_331 : decode cX11_may 331 = .ok (.ifCond .eq 16, 3) := by decide +kernel
theorem dX11_may_334 : decode cX11_may 334 = .ok (.aload_n 0, 1) := by decide +kernel
theorem dX11_may_335 : decode cX11_may 335 = .ok (.aload_n 0, 1) := by decide +kernel
theorem dX11_may_336 : decode cX11_may 336 = .ok (.getfield 66, 3) := by decide +kernel
theorem dX11_may_339 : decode cX11_may 339 = .ok (.iconst 1, 1) := by decide +kernel
theorem dX11_may_340 : decode cX11_may 340 = .ok (.iaload, 1) := by decide +kernel
theorem dX11_may_341 : decode cX11_may 341 = .ok (.invokevirtual 284, 3) := by decide +kernel
theorem dX11_may_344 : decode cX11_may 344 = .ok (.ifCond .eq 7, 3) := by decide +kernel
theorem dX11_may_347 : decode cX11_may 347 = .ok (.iconst 1, 1) := by decide +kernel
theorem dX11_may_348 : decode cX11_may 348 = .ok (.goto 4, 3) := by decide +kernel
theorem dX11_may_351 : decode cX11_may 351 = .ok (.iconst 0, 1) := by decide +kernel
theorem dX11_may_352 : decode cX11_may 352 = .ok (.ireturn, 1) := by decide +kernel
theorem dX11_may_353 : decode cX11_may 353 = .ok (.aload_n 0, 1) := by decide +kernel
theorem dX11_may_354 : decode cX11_may 354 = .ok (.aload_n 0, 1) := by decide +kernel
theorem dX11_may_355 : decode cX11_may 355 = .ok (.getfield 66, 3) := by decide +kernel
theorem dX11_may_358 : decode cX11_may 358 = .ok (.iconst 0, 1) := by decide +kernel
theorem dX11_may_359 : decode cX11_may 359 = .ok (.iaload, 1) := by decide +kernel
theorem dX11_may_360 : decode cX11_may 360 = .ok (.aload_n 0, 1) := by decide +kernel
theorem dX11_may_361 : decode cX11_may 361 = .ok (.getfield 66, 3) := by decide +kernel
theorem dX11_may_364 : decode cX11_may 364 = .ok (.iconst 1, 1) := by decide +kernel
theorem dX11_may_365 : decode cX11_may 365 = .ok (.iaload, 1) := by decide +kernel
theorem dX11_may_366 : decode cX11_may 366 = .ok (.invokevirtual 295, 3) := by decide +kernel
theorem dX11_may_369 : decode cX11_may 369 = .ok (.ireturn, 1) := by decide +kernel
theorem dX11_may_370 : decode cX11_may 370 = .ok (.aload_n 0, 1) := by decide +kernel
theorem dX11_may_371 : decode cX11_may 371 = .ok (.aload_n 0, 1) := by decide +kernel
theorem dX11_may_372 : decode cX11_may 372 = .ok (.getfield 66, 3) := by decide +kernel
theorem dX11_may_375 : decode cX11_may 375 = .ok (.iconst 0, 1) := by decide +kernel
theorem dX11_may_376 : decode cX11_may 376 = .ok (.iaload, 1) := by decide +kernel
theorem dX11_may_377 : decode cX11_may 377 = .ok (.invokevirtual 284, 3) := by decide +kernel
theorem dX11_may_380 : decode cX11_may 380 = .ok (.ireturn, 1) := by decide +kernel
theorem dX11_may_381 : decode cX11_may 381 = .ok (.aload_n 0, 1) := by decide +kernel
theorem dX11_may_382 : decode cX11_may 382 = .ok (.aload_n 0, 1) := by decide +kernel
theorem dX11_may_383 : decode cX11_may 383 = .ok (.getfield 66, 3) := by decide +kernel
theorem dX11_may_386 : decode cX11_may 386 = .ok (.iconst 0, 1) := by decide +kernel
theorem dX11_may_387 : decode cX11_may 387 = .ok (.iaload, 1) := by decide +kernel
theorem dX11_may_388 : decode cX11_may 388 = .ok (.invokevirtual 292, 3) := by decide +kernel
theorem dX11_may_391 : decode cX11_may 391 = .ok (.ireturn, 1) := by decide +kernel
theorem dX11_may_392 : decode cX11_may 392 = .ok (.aload_n 0, 1) := by decide +kernel
theorem dX11_may_393 : decode cX11_may 393 = .ok (.aload_n 0, 1) := by decide +kernel
theorem dX11_may_394 : decode cX11_may 394 = .ok (.getfield 66, 3) := by decide +kernel
theorem dX11_may_397 : decode cX11_may 397 = .ok (.iconst 0, 1) := by decide +kernel
theorem dX11_may_398 : decode cX11_may 398 = .ok (.iaload, 1) := by decide +kernel
theorem dX11_may_399 : decode cX11_may 399 = .ok (.invokevirtual 284, 3) := by decide +kernel
theorem dX11_may_402 : decode cX11_may 402 = .ok (.ifCond .eq 20, 3) := by decide +kernel
theorem dX11_may_405 : decode cX11_may 405 = .ok (.aload_n 0, 1) := by decide +kernel
theorem dX11_may_406 : decode cX11_may 406 = .ok (.aload_n 0, 1) := by decide +kernel
theorem dX11_may_407 : decode cX11_may 407 = .ok (.getfield 66, 3) := by decide +kernel
theorem dX11_may_410 : decode cX11_may 410 = .ok (.iconst 1, 1) := by decide +kernel
theorem dX11_may_411 : decode cX11_may 411 = .ok (.iaload, 1) := by decide +kernel
theorem dX11_may_412 : decode cX11_may 412 = .ok (.invokevirtual 292, 3) := by decide +kernel
theorem dX11_may_415 : decode cX11_may 415 = .ok (.ifCond .eq 7, 3) := by decide +kernel
theorem dX11_may_418 : decode cX11_may 418 = .ok (.iconst 1, 1) := by decide +kernel
theorem dX11_may_419 : decode cX11_may 419 = .ok (.goto 4, 3) := by decide +kernel
theorem dX11_may_422 : decode cX11_may 422 = .ok (.iconst 0, 1) := by decide +kernel
theorem dX11_may_423 : decode cX11_may 423 = .ok (.ireturn, 1) := by decide +kernel
theorem dX11_may_424 : decode cX11_may 424 = .ok (.iconst 1, 1) := by decide +kernel
theorem dX11_may_425 : decode cX11_may 425 = .ok (.ireturn, 1) := by decide +kernel
theorem dX11_does_0 : decode cX11_does 0 = .ok (.iload_n 1, 1) := by decide +kernel
theorem dX11_does_1 : decode cX11_does 1 = .ok (.tableswitch 366 0 33 #[151, 161, 163, 366, 366, 366, 366, 366, 178, 215, 252, 273, 286, 366, 366, 291, 366, 366, 366, 366, 366, 366, 308, 366, 366, 366, 366, 366, 366, 366, 366, 366, 366, 361], 151) := by decide +kernel
theorem dX11_does_152 : decode cX11_does 152 = .ok (.aload_n 0, 1) := by decide +kernel
theorem dX11_does_153 : decode cX11_does 153 = .ok (.aload_n 0, 1) := by decide +kernel
theorem dX11_does_154 : decode cX11_does 154 = .ok (.getfield 233, 3) := by decide +kernel
theorem dX11_does_157 : decode cX11_does 157 = .ok (.invokevirtual 161, 3) := by decide +kernel
theorem dX11_does_160 : decode cX11_does 160 = .ok (.iconst 0, 1) := by decide +kernel
theorem dX11_does_161 : decode cX11_does 161 = .ok (.ireturn, 1) := by decide +kernel
theorem dX11_does_162 : decode cX11_does 162 = .ok (.iconst 0, 1) := by decide +kernel
theorem dX11_does_163 : decode cX11_does 163 = .ok (.ireturn, 1) := by decide +kernel
theorem dX11_does_164 : decode cX11_does 164 = .ok (.aload_n 0, 1) := by decide +kernel
theorem dX11_does_165 : decode cX11_does 165 = .ok (.aload_n 0, 1) := by decide +kernel
theorem dX11_does_166 : decode cX11_does 166 = .ok (.getfield 233, 3) := by decide +kernel
theorem dX11_does_169 : decode cX11_does 169 = .ok (.iconst 1, 1) := by decide +kernel
theorem dX11_does_170 : decode cX11_does 170 = .ok (.aload_n 0, 1) := by decide +kernel
theorem dX11_does_171 : decode cX11_does 171 = .ok (.getfield 269, 3) := by decide +kernel
theorem dX11_does_174 : decode cX11_does 174 = .ok (.invokevirtual 148, 3) := by decide +kernel
theorem dX11_does_177 : decode cX11_does 177 = .ok (.iconst 1, 1) := by decide +kernel
theorem dX11_does_178 : decode cX11_does 178 = .ok (.ireturn, 1) := by decide +kernel
theorem dX11_does_179 : decode cX11_does 179 = .ok (.aload_n 0, 1) := by decide +kernel
theorem dX11_does_180 : decode cX11_does 180 = .ok (.aload_n 0, 1) := by decide +kernel
theorem dX11_does_181 : decode cX11_does 181 = .ok (.getfield 233, 3) := by decide +kernel
theorem dX11_does_184 : decode cX11_does 184 = .ok (.iconst 1, 1) := by decide +kernel
theorem dX11_does_185 : decode cX11_does 185 = .ok (.aload_n 0, 1) := by decide +kernel
theorem dX11_does_186 : decode cX11_does 186 = .ok (.getfield 66, 3) := by decide +kernel
theorem dX11_does_189 : decode cX11_does 189 = .ok (.iconst 0, 1) := by decide +kernel
theorem dX11_does_190 : decode cX11_does 190 = .ok (.iaload, 1) := by decide +kernel
theorem dX11_does_191 : decode cX11_does 191 = .ok (.aload_n 0, 1) := by decide +kernel
theorem dX11_does_192 : decode cX11_does 192 = .ok (.getfield 66, 3) := by decide +kernel
theorem dX11_does_195 : decode cX11_does 195 = .ok (.iconst 1, 1) := by decide +kernel
theorem dX11_does_196 : decode cX11_does 196 = .ok (.iaload, 1) := by decide +kernel
theorem dX11_does_197 : decode cX11_does 197 = .ok (.if_icmp .ne 10, 3) := by decide +kernel
theorem dX11_does_200 : decode cX11_does 200 = .ok (.aload_n 0, 1) := by decide +kernel
theorem dX11_does_201 : decode cX11_does 201 = .ok (.getfield 269, 3) := by decide +kernel
theorem dX11_does_204 : decode cX11_does 204 = .ok (.goto 7, 3) := by decide +kernel
theorem dX11_does_207 : decode cX11_does 207 = .ok (.aload_n 0, 1) := by decide +kernel
theorem dX11_does_208 : decode cX11_does 208 = .ok (.getfield 239, 3) := by decide +kernel
theorem dX11_does_211 : decode cX11_does 211 = .ok (.invokevirtual 148, 3) := by decide +kernel
theorem dX11_does_214 : decode cX11_does 214 = .ok (.iconst 1, 1) := by decide +kernel
theorem dX11_does_215 : decode cX11_does 215 = .ok (.ireturn, 1) := by decide +kernel
theorem dX11_does_216 : decode cX11_does 216 = .ok (.aload_n 0, 1) := by decide +kernel
theorem dX11_does_217 : decode cX11_does 217 = .ok (.aload_n 0, 1) := by decide +kernel
theorem dX11_does_218 : decode cX11_does 218 = .ok (.getfield 233, 3) := by decide +kernel
theorem dX11_does_221 : decode cX11_does 221 = .ok (.iconst 1, 1) := by decide +kernel
theorem dX11_does_222 : decode cX11_does 222 = .ok (.aload_n 0, 1) := by decide +kernel
theorem dX11_does_223 : decode cX11_does 223 = .ok (.getfield 66, 3) := by decide +kernel
theorem dX11_does_226 : decode cX11_does 226 = .ok (.iconst 0, 1) := by decide +kernel
theorem dX11_does_227 : decode cX11_does 227 = .ok (.iaload, 1) := by decide +kernel
theorem dX11_does_228 : decode cX11_does 228 = .ok (.aload_n 0, 1) := by decide +kernel
theorem dX11_does_229 : decode cX11_does 229 = .ok (.getfield 66, 3) := by decide +kernel
theorem dX11_does_232 : decode cX11_does 232 = .ok (.iconst 1, 1) := by decide +kernel
theorem dX11_does_233 : decode cX11_does 233 = .ok (.iaload, 1) := by decide +kernel
theorem dX11_does_234 : decode cX11_does 234 = .ok (.if_icmp .ge 10, 3) := by decide +kernel
theorem dX11_does_237 : decode cX11_does 237 = .ok (.aload_n 0, 1) := by decide +kernel
theorem dX11_does_238 : decode cX11_does 238 = .ok (.getfield 269, 3) := by decide +kernel
theorem dX11_does_241 : decode cX11_does 241 = .ok (.goto 7, 3) := by decide +kernel
theorem dX11_does_244 : decode cX11_does 244 = .ok (.aload_n 0, 1) := by decide +kernel
theorem dX11_does_245 : decode cX11_does 245 = .ok (.getfield 239, 3) := by decide +kernel
theorem dX11_does_248 : decode cX11_does 248 = .ok (.invokevirtual 148, 3) := by decide +kernel
theorem dX11_does_251 : decode cX11_does 251 = .ok (.iconst 1, 1) := by decide +kernel
theorem dX11_does_252 : decode cX11_does 252 = .ok (.ireturn, 1) := by decide +kernel
theorem dX11_does_253 : decode cX11_does 253 = .ok (.aload_n 0, 1) := by decide +kernel
theorem dX11_does_254 : decode cX11_does 254 = .ok (.aload_n 0, 1) := by decide +kernel
theorem dX11_does_255 : decode cX11_does 255 = .ok (.getfield 233, 3) := by decide +kernel
theorem dX11_does_258 : decode cX11_does 258 = .ok (.iconst 2, 1) := by decide +kernel
theorem dX11_does_259 : decode cX11_does 259 = .ok (.iconst 0, 1) := by decide +kernel
theorem dX11_does_260 : decode cX11_does 260 = .ok (.aload_n 0, 1) := by decide +kernel
theorem dX11_does_261 : decode cX11_does 261 = .ok (.getfield 66, 3) := by decide +kernel
theorem dX11_does_264 : decode cX11_does 264 = .ok (.iconst 0, 1) := by decide +kernel
theorem dX11_does_265 : decode cX11_does 265 = .ok (.iaload, 1) := by decide +kernel
theorem dX11_does_266 : decode cX11_does 266 = .ok (.invokestatic 172, 3) := by decide +kernel
theorem dX11_does_269 : decode cX11_does 269 = .ok (.invokevirtual 148, 3) := by decide +kernel
theorem dX11_does_272 : decode cX11_does 272 = .ok (.iconst 0, 1) := by decide +kernel
theorem dX11_does_273 : decode cX11_does 273 = .ok (.ireturn, 1) := by decide +kernel
theorem dX11_does_274 : decode cX11_does 274 = .ok (.aload_n 0, 1) := by decide +kernel
theorem dX11_does_275 : decode cX11_does 275 = .ok (.aload_n 0, 1) := by decide +kernel
theorem dX11_does_276 : decode cX11_does 276 = .ok (.getfield 66, 3) := by decide +kernel
theorem dX11_does_279 : decode cX11_does 279 = .ok (.iconst 0, 1) := by decide +kernel
theorem dX11_does_280 : decode cX11_does 280 = .ok (.iaload, 1) := by decide +kernel
theorem dX11_does_281 : decode cX11_does 281 = .ok (.invokevirtual 298, 3) := by decide +kernel
theorem dX11_does_284 : decode cX11_does 284 = .ok (.istore_n 2, 1) := by decide +kernel
theorem dX11_does_285 : decode cX11_does 285 = .ok (.iconst 1, 1) := by decide +kernel
theorem dX11_does_286 : decode cX11_does 286 = .ok (.ireturn, 1) := by decide +kernel
theorem dX11_does_287 : decode cX11_does 287 = .ok (.aload_n 0, 1) := by decide +kernel
theorem dX11_does_288 : decode cX11_does 288 = .ok (.invokevirtual 301, 3) := by decide +kernel
theorem dX11_does_291 : decode cX11_does 291 = .ok (.ireturn, 1) := by decide +kernel
theorem dX11_does_292 : decode cX11_does 292 = .ok (.aload_n 0, 1) := by decide +kernel
theorem dX11_does_293 : decode cX11_does 293 = .ok (.aload_n 0, 1) := by decide +kernel
theorem dX11_does_294 : decode cX11_does 294 = .ok (.getfield 233, 3) := by decide +kernel
theorem dX11_does_297 : decode cX11_does 297 = .ok (.iconst 3, 1) := by decide +kernel
theorem dX11_does_298 : decode cX11_does 298 = .ok (.aload_n 0, 1) := by decide +kernel
theorem dX11_does_299 : decode cX11_does 299 = .ok (.getfield 66, 3) := by decide +kernel
theorem dX11_does_302 : decode cX11_does 302 = .ok (.iconst 0, 1) := by decide +kernel
theorem dX11_does_303 : decode cX11_does 303 = .ok (.iaload, 1) := by decide +kernel
theorem dX11_does_304 : decode cX11_does 304 = .ok (.invokevirtual 148, 3) := by decide +kernel
theorem dX11_does_307 : decode cX11_does 307 = .ok (.iconst 0, 1) := by decide +kernel
theorem dX11_does_308 : decode cX11_does 308 = .ok (.ireturn, 1) := by decide +kernel
theorem dX11_does_309 : decode cX11_does 309 = .ok (.iconst 0, 1) := by decide +kernel
theorem dX11_does_310 : decode cX11_does 310 = .ok (.istore_n 3, 1) := by decide +kernel
theorem dX11_does_311 : decode cX11_does 311 = .ok (.iload_n 3, 1) := by decide +kernel
theorem dX11_does_312 : decode cX11_does 312 = .ok (.bipush 8, 2) := by decide +kernel
theorem dX11_does_314 : decode cX11_does 314 = .ok (.if_icmp .ge 46, 3) := by decide +kernel
theorem dX11_does_317 : decode cX11_does 317 = .ok (.aload_n 0, 1) := by decide +kernel
theorem dX11_does_318 : decode cX11_does 318 = .ok (.iload_n 3, 1) := by decide +kernel
theorem dX11_does_319 : decode cX11_does 319 = .ok (.iconst 4, 1) := by decide +kernel
theorem dX11_does_320 : decode cX11_does 320 = .ok (.aload_n 0, 1) := by decide +kernel
theorem dX11_does_321 : decode cX11_does 321 = .ok (.getfield 66, 3) := by decide +kernel
theorem dX11_does_324 : decode cX11_does 324 = .ok (.iconst 0, 1) := by decide +kernel
theorem dX11_does_325 : decode cX11_does 325 = .ok (.iaload, 1) := by decide +kernel
theorem dX11_does_326 : decode cX11_does 326 = .ok (.ifCond .eq 24, 3) := by decide +kernel
theorem dX11_does_329 : decode cX11_does 329 = .ok (.iload_n 3, 1) := by decide +kernel
theorem dX11_does_330 : decode cX11_does 330 = .ok (.aload_n 0, 1) := by decide +kernel
theorem dX11_does_331 : decode cX11_does 331 = .ok (.getfield 233, 3) := by decide +kernel
theorem dX11_does_334 : decode cX11_does 334 = .ok (.if_icmp .eq 16, 3) := by decide +kernel
theorem dX11_does_337 : decode cX11_does 337 = .ok (.aload_n 0, 1) := by decide +kernel
theorem dX11_does_338 : decode cX11_does 338 = .ok (.iload_n 3, 1) := by decide +kernel
theorem dX11_does_339 : decode cX11_does 339 = .ok (.iconst 0, 1) := by decide +kernel
theorem dX11_does_340 : decode cX11_does 340 = .ok (.invokevirtual 158, 3) := by decide +kernel
theorem dX11_does_343 : decode cX11_does 343 = .ok (.ifCond .eq 7, 3) := by decide +kernel
theorem dX11_does_346 : decode cX11_does 346 = .ok (.iconst 1, 1) := by decide +kernel
theorem dX11_does_347 : decode cX11_does 347 = .ok (.goto 4, 3) := by decide +kernel
theorem dX11_does_350 : decode cX11_does 350 = .ok (.iconst 0, 1) := by decide +kernel
theorem dX11_does_351 : decode cX11_does 351 = .ok (.invokevirtual 148, 3) := by decide +kernel
theorem dX11_does_354 : decode cX11_does 354 = .ok (.iinc 3 1, 3) := by decide +kernel
theorem dX11_does_357 : decode cX11_does 357 = .ok (.goto (-46), 3) := by decide +kernel
theorem dX11_does_360 : decode cX11_does 360 = .ok (.iconst 1, 1) := by decide +kernel
theorem dX11_does_361 : decode cX11_does 361 = .ok (.ireturn, 1) := by decide +kernel
theorem dX11_does_362 : decode cX11_does 362 = .ok (.aload_n 0, 1) := by decide +kernel
theorem dX11_does_363 : decode cX11_does 363 = .ok (.invokevirtual 305, 3) := by decide +kernel
theorem dX11_does_366 : decode cX11_does 366 = .ok (.ireturn, 1) := by decide +kernel
theorem dX11_does_367 : decode cX11_does 367 = .ok (.iload_n 1, 1) := by decide +kernel
theorem dX11_does_368 : decode cX11_does 368 = .ok (.i2l, 1) := by decide +kernel
theorem dX11_does_369 : decode cX11_does 369 = .ok (.ldc2_w 308, 3) := by decide +kernel
theorem dX11_does_372 : decode cX11_does 372 = .ok (.ldc2_w 310, 3) := by decide +kernel
theorem dX11_does_375 : decode cX11_does 375 = .ok (.invokestatic 72, 3) := by decide +kernel
theorem dX11_does_378 : decode cX11_does 378 = .ok (.ifCond .eq 11, 3) := by decide +kernel
theorem dX11_does_381 : decode cX11_does 381 = .ok (.aload_n 0, 1) := by decide +kernel
theorem dX11_does_382 : decode cX11_does 382 = .ok (.iload_n 1, 1) := by decide +kernel
theorem dX11_does_383 : decode cX11_does 383 = .ok (.invokevirtual 312, 3) := by decide +kernel
theorem dX11_does_386 : decode cX11_does 386 = .ok (.goto 17, 3) := by decide +kernel
theorem dX11_does_389 : decode cX11_does 389 = .ok (.aload_n 0, 1) := by decide +kernel
theorem dX11_does_390 : decode cX11_does 390 = .ok (.getfield 57, 3) := by decide +kernel
theorem dX11_does_393 : decode cX11_does 393 = .ok (.aload_n 0, 1) := by decide +kernel
theorem dX11_does_394 : decode cX11_does 394 = .ok (.getfield 260, 3) := by decide +kernel
theorem dX11_does_397 : decode cX11_does 397 = .ok (.aload_n 0, 1) := by decide +kernel
theorem dX11_does_398 : decode cX11_does 398 = .ok (.iload_n 1, 1) := by decide +kernel
theorem dX11_does_399 : decode cX11_does 399 = .ok (.invokevirtual 315, 3) := by decide +kernel
theorem dX11_does_402 : decode cX11_does 402 = .ok (.iastore, 1) := by decide +kernel
theorem dX11_does_403 : decode cX11_does 403 = .ok (.iconst 1, 1) := by decide +kernel
theorem dX11_does_404 : decode cX11_does 404 = .ok (.ireturn, 1) := by decide +kernel
theorem dX11_stops_0 : decode cX11_stops 0 = .ok (.aload_n 0, 1) := by decide +kernel
theorem dX11_stops_1 : decode cX11_stops 1 = .ok (.aload_n 0, 1) := by decide +kernel
theorem dX11_stops_2 : decode cX11_stops 2 = .ok (.getfield 233, 3) := by decide +kernel
theorem dX11_stops_5 : decode cX11_stops 5 = .ok (.iconst 0, 1) := by decide +kernel
theorem dX11_stops_6 : decode cX11_stops 6 = .ok (.invokevirtual 158, 3) := by decide +kernel
theorem dX11_stops_9 : decode cX11_stops 9 = .ok (.aload_n 0, 1) := by decide +kernel
theorem dX11_stops_10 : decode cX11_stops 10 = .ok (.getfield 66, 3) := by decide +kernel
theorem dX11_stops_13 : decode cX11_stops 13 = .ok (.iconst 0, 1) := by decide +kernel
theorem dX11_stops_14 : decode cX11_stops 14 = .ok (.iaload, 1) := by decide +kernel
theorem dX11_stops_15 : decode cX11_stops 15 = .ok (.if_icmp .eq 7, 3) := by decide +kernel
theorem dX11_stops_18 : decode cX11_stops 18 = .ok (.iconst 1, 1) := by decide +kernel
theorem dX11_stops_19 : decode cX11_stops 19 = .ok (.goto 4, 3) := by decide +kernel
theorem dX11_stops_22 : decode cX11_stops 22 = .ok (.iconst 0, 1) := by decide +kernel
theorem dX11_stops_23 : decode cX11_stops 23 = .ok (.istore_n 1, 1) := by decide +kernel
theorem dX11_stops_24 : decode cX11_stops 24 = .ok (.iconst 0, 1) := by decide +kernel
theorem dX11_stops_25 : decode cX11_stops 25 = .ok (.istore_n 2, 1) := by decide +kernel
theorem dX11_stops_26 : decode cX11_stops 26 = .ok (.iload_n 2, 1) := by decide +kernel
theorem dX11_stops_27 : decode cX11_stops 27 = .ok (.bipush 8, 2) := by decide +kernel
theorem dX11_stops_29 : decode cX11_stops 29 = .ok (.if_icmp .ge 38, 3) := by decide +kernel
theorem dX11_stops_32 : decode cX11_stops 32 = .ok (.aload_n 0, 1) := by decide +kernel
theorem dX11_stops_33 : decode cX11_stops 33 = .ok (.iload_n 2, 1) := by decide +kernel
theorem dX11_stops_34 : decode cX11_stops 34 = .ok (.iconst 0, 1) := by decide +kernel
theorem dX11_stops_35 : decode cX11_stops 35 = .ok (.invokevirtual 158, 3) := by decide +kernel
theorem dX11_stops_38 : decode cX11_stops 38 = .ok (.aload_n 0, 1) := by decide +kernel
theorem dX11_stops_39 : decode cX11_stops 39 = .ok (.getfield 66, 3) := by decide +kernel
theorem dX11_stops_42 : decode cX11_stops 42 = .ok (.iconst 0, 1) := by decide +kernel
theorem dX11_stops_43 : decode cX11_stops 43 = .ok (.iaload, 1) := by decide +kernel
theorem dX11_stops_44 : decode cX11_stops 44 = .ok (.if_icmp .ne 17, 3) := by decide +kernel
theorem dX11_stops_47 : decode cX11_stops 47 = .ok (.aload_n 0, 1) := by decide +kernel
theorem dX11_stops_48 : decode cX11_stops 48 = .ok (.getfield 66, 3) := by decide +kernel
theorem dX11_stops_51 : decode cX11_stops 51 = .ok (.iconst 0, 1) := by decide +kernel
theorem dX11_stops_52 : decode cX11_stops 52 = .ok (.iaload, 1) := by decide +kernel
theorem dX11_stops_53 : decode cX11_stops 53 = .ok (.ifCond .eq 8, 3) := by decide +kernel
theorem dX11_stops_56 : decode cX11_stops 56 = .ok (.aload_n 0, 1) := by decide +kernel
theorem dX11_stops_57 : decode cX11_stops 57 = .ok (.iload_n 2, 1) := by decide +kernel
theorem dX11_stops_58 : decode cX11_stops 58 = .ok (.invokevirtual 161, 3) := by decide +kernel
theorem dX11_stops_61 : decode cX11_stops 61 = .ok (.iinc 2 1, 3) := by decide +kernel
theorem dX11_stops_64 : decode cX11_stops 64 = .ok (.goto (-38), 3) := by decide +kernel
theorem dX11_stops_67 : decode cX11_stops 67 = .ok (.iload_n 1, 1) := by decide +kernel
theorem dX11_stops_68 : decode cX11_stops 68 = .ok (.ireturn, 1) := by decide +kernel
theorem dX11_changes_0 : decode cX11_changes 0 = .ok (.aload_n 0, 1) := by decide +kernel
theorem dX11_changes_1 : decode cX11_changes 1 = .ok (.aload_n 0, 1) := by decide +kernel
theorem dX11_changes_2 : decode cX11_changes 2 = .ok (.getfield 66, 3) := by decide +kernel
theorem dX11_changes_5 : decode cX11_changes 5 = .ok (.iconst 0, 1) := by decide +kernel
theorem dX11_changes_6 : decode cX11_changes 6 = .ok (.iaload, 1) := by decide +kernel
theorem dX11_changes_7 : decode cX11_changes 7 = .ok (.invokevirtual 154, 3) := by decide +kernel
theorem dX11_changes_10 : decode cX11_changes 10 = .ok (.ifCond .ne 13, 3) := by decide +kernel
theorem dX11_changes_13 : decode cX11_changes 13 = .ok (.aload_n 0, 1) := by decide +kernel
theorem dX11_changes_14 : decode cX11_changes 14 = .ok (.aload_n 0, 1) := by decide +kernel
theorem dX11_changes_15 : decode cX11_changes 15 = .ok (.getfield 233, 3) := by decide +kernel
theorem dX11_changes_18 : decode cX11_changes 18 = .ok (.invokevirtual 161, 3) := by decide +kernel
theorem dX11_changes_21 : decode cX11_changes 21 = .ok (.iconst 0, 1) := by decide +kernel
theorem dX11_changes_22 : decode cX11_changes 22 = .ok (.ireturn, 1) := by decide +kernel
theorem dX11_changes_23 : decode cX11_changes 23 = .ok (.aload_n 0, 1) := by decide +kernel
theorem dX11_changes_24 : decode cX11_changes 24 = .ok (.aload_n 0, 1) := by decide +kernel
theorem dX11_changes_25 : decode cX11_changes 25 = .ok (.getfield 233, 3) := by decide +kernel
theorem dX11_changes_28 : decode cX11_changes 28 = .ok (.iconst 0, 1) := by decide +kernel
theorem dX11_changes_29 : decode cX11_changes 29 = .ok (.aload_n 0, 1) := by decide +kernel
theorem dX11_changes_30 : decode cX11_changes 30 = .ok (.getfield 66, 3) := by decide +kernel
theorem dX11_changes_33 : decode cX11_changes 33 = .ok (.iconst 0, 1) := by decide +kernel
theorem dX11_changes_34 : decode cX11_changes 34 = .ok (.iaload, 1) := by decide +kernel
theorem dX11_changes_35 : decode cX11_changes 35 = .ok (.invokevirtual 148, 3) := by decide +kernel
theorem dX11_changes_38 : decode cX11_changes 38 = .ok (.aload_n 0, 1) := by decide +kernel
theorem dX11_changes_39 : decode cX11_changes 39 = .ok (.aload_n 0, 1) := by decide +kernel
theorem dX11_changes_40 : decode cX11_changes 40 = .ok (.getfield 233, 3) := by decide +kernel
theorem dX11_changes_43 : decode cX11_changes 43 = .ok (.iconst 1, 1) := by decide +kernel
theorem dX11_changes_44 : decode cX11_changes 44 = .ok (.iconst 0, 1) := by decide +kernel
theorem dX11_changes_45 : decode cX11_changes 45 = .ok (.invokevirtual 148, 3) := by decide +kernel
theorem dX11_changes_48 : decode cX11_changes 48 = .ok (.iconst 1, 1) := by decide +kernel
theorem dX11_changes_49 : decode cX11_changes 49 = .ok (.ireturn, 1) := by decide +kernel
theorem dX11_walks_0 : decode cX11_walks 0 = .ok (.aload_n 0, 1) := by decide +kernel
theorem dX11_walks_1 : decode cX11_walks 1 = .ok (.iload_n 1, 1) := by decide +kernel
theorem dX11_walks_2 : decode cX11_walks 2 = .ok (.iconst 4, 1) := by decide +kernel
theorem dX11_walks_3 : decode cX11_walks 3 = .ok (.iconst 1, 1) := by decide +kernel
theorem dX11_walks_4 : decode cX11_walks 4 = .ok (.invokevirtual 223, 3) := by decide +kernel
theorem dX11_walks_7 : decode cX11_walks 7 = .ok (.aload_n 0, 1) := by decide +kernel
theorem dX11_walks_8 : decode cX11_walks 8 = .ok (.iload_n 1, 1) := by decide +kernel
theorem dX11_walks_9 : decode cX11_walks 9 = .ok (.iconst 5, 1) := by decide +kernel
theorem dX11_walks_10 : decode cX11_walks 10 = .ok (.iload_n 2, 1) := by decide +kernel
theorem dX11_walks_11 : decode cX11_walks 11 = .ok (.invokevirtual 223, 3) := by decide +kernel
theorem dX11_walks_14 : decode cX11_walks 14 = .ok (.aload_n 0, 1) := by decide +kernel
theorem dX11_walks_15 : decode cX11_walks 15 = .ok (.iload_n 1, 1) := by decide +kernel
theorem dX11_walks_16 : decode cX11_walks 16 = .ok (.bipush 6, 2) := by decide +kernel
theorem dX11_walks_18 : decode cX11_walks 18 = .ok (.iload_n 3, 1) := by decide +kernel
theorem dX11_walks_19 : decode cX11_walks 19 = .ok (.invokevirtual 223, 3) := by decide +kernel
theorem dX11_walks_22 : decode cX11_walks 22 = .ok (.return_, 1) := by decide +kernel
theorem dX11_acts_0 : decode cX11_acts 0 = .ok (.iload_n 1, 1) := by decide +kernel
theorem dX11_acts_1 : decode cX11_acts 1 = .ok (.tableswitch 285 13 20 #[47, 113, 285, 138, 158, 182, 206, 248], 47) := by decide +kernel
theorem dX11_acts_48 : decode cX11_acts 48 = .ok (.aload_n 0, 1) := by decide +kernel
theorem dX11_acts_49 : decode cX11_acts 49 = .ok (.aload_n 0, 1) := by decide +kernel
theorem dX11_acts_50 : decode cX11_acts 50 = .ok (.getfield 66, 3) := by decide +kernel
theorem dX11_acts_53 : decode cX11_acts 53 = .ok (.iconst 0, 1) := by decide +kernel
theorem dX11_acts_54 : decode cX11_acts 54 = .ok (.iaload, 1) := by decide +kernel
theorem dX11_acts_55 : decode cX11_acts 55 = .ok (.iconst 0, 1) := by decide +kernel
theorem dX11_acts_56 : decode cX11_acts 56 = .ok (.aload_n 0, 1) := by decide +kernel
theorem dX11_acts_57 : decode cX11_acts 57 = .ok (.getfield 66, 3) := by decide +kernel
theorem dX11_acts_60 : decode cX11_acts 60 = .ok (.iconst 1, 1) := by decide +kernel
theorem dX11_acts_61 : decode cX11_acts 61 = .ok (.iaload, 1) := by decide +kernel
theorem dX11_acts_62 : decode cX11_acts 62 = .ok (.invokevirtual 223, 3) := by decide +kernel
theorem dX11_acts_65 : decode cX11_acts 65 = .ok (.aload_n 0, 1) := by decide +kernel
theorem dX11_acts_66 : decode cX11_acts 66 = .ok (.aload_n 0, 1) := by decide +kernel
theorem dX11_acts_67 : decode cX11_acts 67 = .ok (.getfield 66, 3) := by decide +kernel
theorem dX11_acts_70 : decode cX11_acts 70 = .ok (.iconst 0, 1) := by decide +kernel
theorem dX11_acts_71 : decode cX11_acts 71 = .ok (.iaload, 1) := by decide +kernel
theorem dX11_acts_72 : decode cX11_acts 72 = .ok (.iconst 1, 1) := by decide +kernel
theorem dX11_acts_73 : decode cX11_acts 73 = .ok (.aload_n 0, 1) := by decide +kernel
theorem dX11_acts_74 : decode cX11_acts 74 = .ok (.getfield 66, 3) := by decide +kernel
theorem dX11_acts_77 : decode cX11_acts 77 = .ok (.iconst 2, 1) := by decide +kernel
theorem dX11_acts_78 : decode cX11_acts 78 = .ok (.iaload, 1) := by decide +kernel
theorem dX11_acts_79 : decode cX11_acts 79 = .ok (.invokevirtual 223, 3) := by decide +kernel
theorem dX11_acts_82 : decode cX11_acts 82 = .ok (.aload_n 0, 1) := by decide +kernel
theorem dX11_acts_83 : decode cX11_acts 83 = .ok (.aload_n 0, 1) := by decide +kernel
theorem dX11_acts_84 : decode cX11_acts 84 = .ok (.getfield 66, 3) := by decide +kernel
theorem dX11_acts_87 : decode cX11_acts 87 = .ok (.iconst 0, 1) := by decide +kernel
theorem dX11_acts_88 : decode cX11_acts 88 = .ok (.iaload, 1) := by decide +kernel
theorem dX11_acts_89 : decode cX11_acts 89 = .ok (.iconst 2, 1) := by decide +kernel
theorem dX11_acts_90 : decode cX11_acts 90 = .ok (.aload_n 0, 1) := by decide +kernel
theorem dX11_acts_91 : decode cX11_acts 91 = .ok (.getfield 66, 3) := by decide +kernel
theorem dX11_acts_94 : decode cX11_acts 94 = .ok (.iconst 3, 1) := by decide +kernel
theorem dX11_acts_95 : decode cX11_acts 95 = .ok (.iaload, 1) := by decide +kernel
theorem dX11_acts_96 : decode cX11_acts 96 = .ok (.invokevirtual 223, 3) := by decide +kernel
theorem dX11_acts_99 : decode cX11_acts 99 = .ok (.aload_n 0, 1) := by decide +kernel
theorem dX11_acts_100 : decode cX11_acts 100 = .ok (.aload_n 0, 1) := by decide +kernel
theorem dX11_acts_101 : decode cX11_acts 101 = .ok (.getfield 66, 3) := by decide +kernel
theorem dX11_acts_104 : decode cX11_acts 104 = .ok (.iconst 0, 1) := by decide +kernel
theorem dX11_acts_105 : decode cX11_acts 105 = .ok (.iaload, 1) := by decide +kernel
theorem dX11_acts_106 : decode cX11_acts 106 = .ok (.iconst 4, 1) := by decide +kernel
theorem dX11_acts_107 : decode cX11_acts 107 = .ok (.iconst 0, 1) := by decide +kernel
theorem dX11_acts_108 : decode cX11_acts 108 = .ok (.invokevirtual 223, 3) := by decide +kernel
theorem dX11_acts_111 : decode cX11_acts 111 = .ok (.goto 198, 3) := by decide +kernel
theorem dX11_acts_114 : decode cX11_acts 114 = .ok (.aload_n 0, 1) := by decide +kernel
theorem dX11_acts_115 : decode cX11_acts 115 = .ok (.aload_n 0, 1) := by decide +kernel
theorem dX11_acts_116 : decode cX11_acts 116 = .ok (.getfield 66, 3) := by decide +kernel
theorem dX11_acts_119 : decode cX11_acts 119 = .ok (.iconst 0, 1) := by decide +kernel
theorem dX11_acts_120 : decode cX11_acts 120 = .ok (.iaload, 1) := by decide +kernel
theorem dX11_acts_121 : decode cX11_acts 121 = .ok (.aload_n 0, 1) := by decide +kernel
theorem dX11_acts_122 : decode cX11_acts 122 = .ok (.getfield 66, 3) := by decide +kernel
theorem dX11_acts_125 : decode cX11_acts 125 = .ok (.iconst 1, 1) := by decide +kernel
theorem dX11_acts_126 : decode cX11_acts 126 = .ok (.iaload, 1) := by decide +kernel
theorem dX11_acts_127 : decode cX11_acts 127 = .ok (.aload_n 0, 1) := by decide +kernel
theorem dX11_acts_128 : decode cX11_acts 128 = .ok (.getfield 66, 3) := by decide +kernel
theorem dX11_acts_131 : decode cX11_acts 131 = .ok (.iconst 2, 1) := by decide +kernel
theorem dX11_acts_132 : decode cX11_acts 132 = .ok (.iaload, 1) := by decide +kernel
theorem dX11_acts_133 : decode cX11_acts 133 = .ok (.invokevirtual 318, 3) := by decide +kernel
theorem dX11_acts_136 : decode cX11_acts 136 = .ok (.goto 173, 3) := by decide +kernel
theorem dX11_acts_139 : decode cX11_acts 139 = .ok (.aload_n 0, 1) := by decide +kernel
theorem dX11_acts_140 : decode cX11_acts 140 = .ok (.aload_n 0, 1) := by decide +kernel
theorem dX11_acts_141 : decode cX11_acts 141 = .ok (.getfield 66, 3) := by decide +kernel
theorem dX11_acts_144 : decode cX11_acts 144 = .ok (.iconst 0, 1) := by decide +kernel
theorem dX11_acts_145 : decode cX11_acts 145 = .ok (.iaload, 1) := by decide +kernel
theorem dX11_acts_146 : decode cX11_acts 146 = .ok (.iconst 3, 1) := by decide +kernel
theorem dX11_acts_147 : decode cX11_acts 147 = .ok (.aload_n 0, 1) := by decide +kernel
theorem dX11_acts_148 : decode cX11_acts 148 = .ok (.getfield 66, 3) := by decide +kernel
theorem dX11_acts_151 : decode cX11_acts 151 = .ok (.iconst 1, 1) := by decide +kernel
theorem dX11_acts_152 : decode cX11_acts 152 = .ok (.iaload, 1) := by decide +kernel
theorem dX11_acts_153 : decode cX11_acts 153 = .ok (.invokevirtual 223, 3) := by decide +kernel
theorem dX11_acts_156 : decode cX11_acts 156 = .ok (.goto 153, 3) := by decide +kernel
theorem dX11_acts_159 : decode cX11_acts 159 = .ok (.aload_n 0, 1) := by decide +kernel
theorem dX11_acts_160 : decode cX11_acts 160 = .ok (.getfield 57, 3) := by decide +kernel
theorem dX11_acts_163 : decode cX11_acts 163 = .ok (.sipush 323, 3) := by decide +kernel
theorem dX11_acts_166 : decode cX11_acts 166 = .ok (.aload_n 0, 1) := by decide +kernel
theorem dX11_acts_167 : decode cX11_acts 167 = .ok (.getfield 66, 3) := by decide +kernel
theorem dX11_acts_170 : decode cX11_acts 170 = .ok (.iconst 0, 1) := by decide +kernel
theorem dX11_acts_171 : decode cX11_acts 171 = .ok (.iaload, 1) := by decide +kernel
theorem dX11_acts_172 : decode cX11_acts 172 = .ok (.iadd, 1) := by decide +kernel
theorem dX11_acts_173 : decode cX11_acts 173 = .ok (.aload_n 0, 1) := by decide +kernel
theorem dX11_acts_174 : decode cX11_acts 174 = .ok (.getfield 66, 3) := by decide +kernel
theorem dX11_acts_177 : decode cX11_acts 177 = .ok (.iconst 1, 1) := by decide +kernel
theorem dX11_acts_178 : decode cX11_acts 178 = .ok (.iaload, 1) := by decide +kernel
theorem dX11_acts_179 : decode cX11_acts 179 = .ok (.iastore, 1) := by decide +kernel
theorem dX11_acts_180 : decode cX11_acts 180 = .ok (.goto 129, 3) := by decide +kernel
theorem dX11_acts_183 : decode cX11_acts 183 = .ok (.aload_n 0, 1) := by decide +kernel
theorem dX11_acts_184 : decode cX11_acts 184 = .ok (.getfield 57, 3) := by decide +kernel
theorem dX11_acts_187 : decode cX11_acts 187 = .ok (.sipush 384, 3) := by decide +kernel
theorem dX11_acts_190 : decode cX11_acts 190 = .ok (.aload_n 0, 1) := by decide +kernel
theorem dX11_acts_191 : decode cX11_acts 191 = .ok (.getfield 66, 3) := by decide +kernel
theorem dX11_acts_194 : decode cX11_acts 194 = .ok (.iconst 0, 1) := by decide +kernel
theorem dX11_acts_195 : decode cX11_acts 195 = .ok (.iaload, 1) := by decide +kernel
theorem dX11_acts_196 : decode cX11_acts 196 = .ok (.iadd, 1) := by decide +kernel
theorem dX11_acts_197 : decode cX11_acts 197 = .ok (.aload_n 0, 1) := by decide +kernel
theorem dX11_acts_198 : decode cX11_acts 198 = .ok (.getfield 66, 3) := by decide +kernel
theorem dX11_acts_201 : decode cX11_acts 201 = .ok (.iconst 1, 1) := by decide +kernel
theorem dX11_acts_202 : decode cX11_acts 202 = .ok (.iaload, 1) := by decide +kernel
theorem dX11_acts_203 : decode cX11_acts 203 = .ok (.iastore, 1) := by decide +kernel
theorem dX11_acts_204 : decode cX11_acts 204 = .ok (.goto 105, 3) := by decide +kernel
theorem dX11_acts_207 : decode cX11_acts 207 = .ok (.aload_n 0, 1) := by decide +kernel
theorem dX11_acts_208 : decode cX11_acts 208 = .ok (.getfield 57, 3) := by decide +kernel
theorem dX11_acts_211 : decode cX11_acts 211 = .ok (.sipush 445, 3) := by decide +kernel
theorem dX11_acts_214 : decode cX11_acts 214 = .ok (.aload_n 0, 1) := by decide +kernel
theorem dX11_acts_215 : decode cX11_acts 215 = .ok (.getfield 66, 3) := by decide +kernel
theorem dX11_acts_218 : decode cX11_acts 218 = .ok (.iconst 0, 1) := by decide +kernel
theorem dX11_acts_219 : decode cX11_acts 219 = .ok (.iaload, 1) := by decide +kernel
theorem dX11_acts_220 : decode cX11_acts 220 = .ok (.bipush 16, 2) := by decide +kernel
theorem dX11_acts_222 : decode cX11_acts 222 = .ok (.imul, 1) := by decide +kernel
theorem dX11_acts_223 : decode cX11_acts 223 = .ok (.iadd, 1) := by decide +kernel
theorem dX11_acts_224 : decode cX11_acts 224 = .ok (.aload_n 0, 1) := by decide +kernel
theorem dX11_acts_225 : decode cX11_acts 225 = .ok (.getfield 66, 3) := by decide +kernel
theorem dX11_acts_228 : decode cX11_acts 228 = .ok (.iconst 1, 1) := by decide +kernel
theorem dX11_acts_229 : decode cX11_acts 229 = .ok (.iaload, 1) := by decide +kernel
theorem dX11_acts_230 : decode cX11_acts 230 = .ok (.iadd, 1) := by decide +kernel
theorem dX11_acts_231 : decode cX11_acts 231 = .ok (.aload_n 0, 1) := by decide +kernel
theorem dX11_acts_232 : decode cX11_acts 232 = .ok (.getfield 66, 3) := by decide +kernel
theorem dX11_acts_235 : decode cX11_acts 235 = .ok (.iconst 2, 1) := by decide +kernel
theorem dX11_acts_236 : decode cX11_acts 236 = .ok (.iaload, 1) := by decide +kernel
theorem dX11_acts_237 : decode cX11_acts 237 = .ok (.ifCond .ne 7, 3) := by decide +kernel
theorem dX11_acts_240 : decode cX11_acts 240 = .ok (.iconst 0, 1) := by decide +kernel
theorem dX11_acts_241 : decode cX11_acts 241 = .ok (.goto 4, 3) := by decide +kernel
theorem dX11_acts_244 : decode cX11_acts 244 = .ok (.iconst 1, 1) := by decide +kernel
theorem dX11_acts_245 : decode cX11_acts 245 = .ok (.iastore, 1) := by decide +kernel
theorem dX11_acts_246 : decode cX11_acts 246 = .ok (.goto 63, 3) := by decide +kernel
theorem dX11_acts_249 : decode cX11_acts 249 = .ok (.aload_n 0, 1) := by decide +kernel
theorem dX11_acts_250 : decode cX11_acts 250 = .ok (.getfield 57, 3) := by decide +kernel
theorem dX11_acts_253 : decode cX11_acts 253 = .ok (.sipush 168, 3) := by decide +kernel
theorem dX11_acts_256 : decode cX11_acts 256 = .ok (.aload_n 0, 1) := by decide +kernel
theorem dX11_acts_257 : decode cX11_acts 257 = .ok (.getfield 57, 3) := by decide +kernel
theorem dX11_acts_260 : decode cX11_acts 260 = .ok (.iconst 2, 1) := by decide +kernel
theorem dX11_acts_261 : decode cX11_acts 261 = .ok (.iaload, 1) := by decide +kernel
theorem dX11_acts_262 : decode cX11_acts 262 = .ok (.bipush 64, 2) := by decide +kernel
theorem dX11_acts_264 : decode cX11_acts 264 = .ok (.irem, 1) := by decide +kernel
theorem dX11_acts_265 : decode cX11_acts 265 = .ok (.iadd, 1) := by decide +kernel
theorem dX11_acts_266 : decode cX11_acts 266 = .ok (.aload_n 0, 1) := by decide +kernel
theorem dX11_acts_267 : decode cX11_acts 267 = .ok (.getfield 66, 3) := by decide +kernel
theorem dX11_acts_270 : decode cX11_acts 270 = .ok (.iconst 0, 1) := by decide +kernel
theorem dX11_acts_271 : decode cX11_acts 271 = .ok (.iaload, 1) := by decide +kernel
theorem dX11_acts_272 : decode cX11_acts 272 = .ok (.iastore, 1) := by decide +kernel
theorem dX11_acts_273 : decode cX11_acts 273 = .ok (.aload_n 0, 1) := by decide +kernel
theorem dX11_acts_274 : decode cX11_acts 274 = .ok (.getfield 57, 3) := by decide +kernel
theorem dX11_acts_277 : decode cX11_acts 277 = .ok (.iconst 2, 1) := by decide +kernel
theorem dX11_acts_278 : decode cX11_acts 278 = .ok (.dup2, 1) := by decide +kernel
theorem dX11_acts_279 : decode cX11_acts 279 = .ok (.iaload, 1) := by decide +kernel
theorem dX11_acts_280 : decode cX11_acts 280 = .ok (.iconst 1, 1) := by decide +kernel
theorem dX11_acts_281 : decode cX11_acts 281 = .ok (.iadd, 1) := by decide +kernel
theorem dX11_acts_282 : decode cX11_acts 282 = .ok (.iastore, 1) := by decide +kernel
theorem dX11_acts_283 : decode cX11_acts 283 = .ok (.goto 26, 3) := by decide +kernel
theorem dX11_acts_286 : decode cX11_acts 286 = .ok (.aload_n 0, 1) := by decide +kernel
theorem dX11_acts_287 : decode cX11_acts 287 = .ok (.aload_n 0, 1) := by decide +kernel
theorem dX11_acts_288 : decode cX11_acts 288 = .ok (.getfield 66, 3) := by decide +kernel
theorem dX11_acts_291 : decode cX11_acts 291 = .ok (.iconst 0, 1) := by decide +kernel
theorem dX11_acts_292 : decode cX11_acts 292 = .ok (.iaload, 1) := by decide +kernel
theorem dX11_acts_293 : decode cX11_acts 293 = .ok (.aload_n 0, 1) := by decide +kernel
theorem dX11_acts_294 : decode cX11_acts 294 = .ok (.getfield 66, 3) := by decide +kernel
theorem dX11_acts_297 : decode cX11_acts 297 = .ok (.iconst 1, 1) := by decide +kernel
theorem dX11_acts_298 : decode cX11_acts 298 = .ok (.iaload, 1) := by decide +kernel
theorem dX11_acts_299 : decode cX11_acts 299 = .ok (.aload_n 0, 1) := by decide +kernel
theorem dX11_acts_300 : decode cX11_acts 300 = .ok (.getfield 66, 3) := by decide +kernel
theorem dX11_acts_303 : decode cX11_acts 303 = .ok (.iconst 2, 1) := by decide +kernel
theorem dX11_acts_304 : decode cX11_acts 304 = .ok (.iaload, 1) := by decide +kernel
theorem dX11_acts_305 : decode cX11_acts 305 = .ok (.invokevirtual 321, 3) := by decide +kernel
theorem dX11_acts_308 : decode cX11_acts 308 = .ok (.istore_n 2, 1) := by decide +kernel
theorem dX11_acts_309 : decode cX11_acts 309 = .ok (.return_, 1) := by decide +kernel
theorem dX11_answer_0 : decode cX11_answer 0 = .ok (.iload_n 1, 1) := by decide +kernel
theorem dX11_answer_1 : decode cX11_answer 1 = .ok (.tableswitch 401 3 31 #[131, 138, 155, 172, 189, 401, 401, 401, 401, 401, 401, 401, 401, 401, 401, 401, 401, 401, 401, 401, 206, 218, 230, 242, 253, 265, 281, 297, 308], 131) := by decide +kernel
theorem dX11_answer_132 : decode cX11_answer 132 = .ok (.aload_n 0, 1) := by decide +kernel
theorem dX11_answer_133 : decode cX11_answer 133 = .ok (.getfield 66, 3) := by decide +kernel
theorem dX11_answer_136 : decode cX11_answer 136 = .ok (.iconst 0, 1) := by decide +kernel
theorem dX11_answer_137 : decode cX11_answer 137 = .ok (.iaload, 1) := by decide +kernel
theorem dX11_answer_138 : decode cX11_answer 138 = .ok (.ireturn, 1) := by decide +kernel
theorem dX11_answer_139 : decode cX11_answer 139 = .ok (.aload_n 0, 1) := by decide +kernel
theorem dX11_answer_140 : decode cX11_answer 140 = .ok (.getfield 57, 3) := by decide +kernel
theorem dX11_answer_143 : decode cX11_answer 143 = .ok (.aload_n 0, 1) := by decide +kernel
theorem dX11_answer_144 : decode cX11_answer 144 = .ok (.getfield 260, 3) := by decide +kernel
theorem dX11_answer_147 : decode cX11_answer 147 = .ok (.iaload, 1) := by decide +kernel
theorem dX11_answer_148 : decode cX11_answer 148 = .ok (.aload_n 0, 1) := by decide +kernel
theorem dX11_answer_149 : decode cX11_answer 149 = .ok (.getfield 66, 3) := by decide +kernel
theorem dX11_answer_152 : decode cX11_answer 152 = .ok (.iconst 0, 1) := by decide +kernel
theorem dX11_answer_153 : decode cX11_answer 153 = .ok (.iaload, 1) := by decide +kernel
theorem dX11_answer_154 : decode cX11_answer 154 = .ok (.iadd, 1) := by decide +kernel
theorem dX11_answer_155 : decode cX11_answer 155 = .ok (.ireturn, 1) := by decide +kernel
theorem dX11_answer_156 : decode cX11_answer 156 = .ok (.aload_n 0, 1) := by decide +kernel
theorem dX11_answer_157 : decode cX11_answer 157 = .ok (.getfield 57, 3) := by decide +kernel
theorem dX11_answer_160 : decode cX11_answer 160 = .ok (.aload_n 0, 1) := by decide +kernel
theorem dX11_answer_161 : decode cX11_answer 161 = .ok (.getfield 260, 3) := by decide +kernel
theorem dX11_answer_164 : decode cX11_answer 164 = .ok (.iaload, 1) := by decide +kernel
theorem dX11_answer_165 : decode cX11_answer 165 = .ok (.aload_n 0, 1) := by decide +kernel
theorem dX11_answer_166 : decode cX11_answer 166 = .ok (.getfield 66, 3) := by decide +kernel
theorem dX11_answer_169 : decode cX11_answer 169 = .ok (.iconst 0, 1) := by decide +kernel
theorem dX11_answer_170 : decode cX11_answer 170 = .ok (.iaload, 1) := by decide +kernel
theorem dX11_answer_171 : decode cX11_answer 171 = .ok (.isub, 1) := by decide +kernel
theorem dX11_answer_172 : decode cX11_answer 172 = .ok (.ireturn, 1) := by decide +kernel
theorem dX11_answer_173 : decode cX11_answer 173 = .ok (.aload_n 0, 1) := by decide +kernel
theorem dX11_answer_174 : decode cX11_answer 174 = .ok (.getfield 57, 3) := by decide +kernel
theorem dX11_answer_177 : decode cX11_answer 177 = .ok (.aload_n 0, 1) := by decide +kernel
theorem dX11_answer_178 : decode cX11_answer 178 = .ok (.getfield 260, 3) := by decide +kernel
theorem dX11_answer_181 : decode cX11_answer 181 = .ok (.iaload, 1) := by decide +kernel
theorem dX11_answer_182 : decode cX11_answer 182 = .ok (.aload_n 0, 1) := by decide +kernel
theorem dX11_answer_183 : decode cX11_answer 183 = .ok (.getfield 66, 3) := by decide +kernel
theorem dX11_answer_186 : decode cX11_answer 186 = .ok (.iconst 0, 1) := by decide +kernel
theorem dX11_answer_187 : decode cX11_answer 187 = .ok (.iaload, 1) := by decide +kernel
theorem dX11_answer_188 : decode cX11_answer 188 = .ok (.imul, 1) := by decide +kernel
theorem dX11_answer_189 : decode cX11_answer 189 = .ok (.ireturn, 1) := by decide +kernel
theorem dX11_answer_190 : decode cX11_answer 190 = .ok (.aload_n 0, 1) := by decide +kernel
theorem dX11_answer_191 : decode cX11_answer 191 = .ok (.getfield 57, 3) := by decide +kernel
theorem dX11_answer_194 : decode cX11_answer 194 = .ok (.aload_n 0, 1) := by decide +kernel
theorem dX11_answer_195 : decode cX11_answer 195 = .ok (.getfield 260, 3) := by decide +kernel
theorem dX11_answer_198 : decode cX11_answer 198 = .ok (.iaload, 1) := by decide +kernel
theorem dX11_answer_199 : decode cX11_answer 199 = .ok (.aload_n 0, 1) := by decide +kernel
theorem dX11_answer_200 : decode cX11_answer 200 = .ok (.getfield 66, 3) := by decide +kernel
theorem dX11_answer_203 : decode cX11_answer 203 = .ok (.iconst 0, 1) := by decide +kernel
theorem dX11_answer_204 : decode cX11_answer 204 = .ok (.iaload, 1) := by decide +kernel
theorem dX11_answer_205 : decode cX11_answer 205 = .ok (.idiv, 1) := by decide +kernel
theorem dX11_answer_206 : decode cX11_answer 206 = .ok (.ireturn, 1) := by decide +kernel
theorem dX11_answer_207 : decode cX11_answer 207 = .ok (.aload_n 0, 1) := by decide +kernel
theorem dX11_answer_208 : decode cX11_answer 208 = .ok (.aload_n 0, 1) := by decide +kernel
theorem dX11_answer_209 : decode cX11_answer 209 = .ok (.getfield 66, 3) := by decide +kernel
theorem dX11_answer_212 : decode cX11_answer 212 = .ok (.iconst 0, 1) := by decide +kernel
theorem dX11_answer_213 : decode cX11_answer 213 = .ok (.iaload, 1) := by decide +kernel
theorem dX11_answer_214 : decode cX11_answer 214 = .ok (.iconst 1, 1) := by decide +kernel
theorem dX11_answer_215 : decode cX11_answer 215 = .ok (.invokevirtual 192, 3) := by decide +kernel
theorem dX11_answer_218 : decode cX11_answer 218 = .ok (.ireturn, 1) := by decide +kernel
theorem dX11_answer_219 : decode cX11_answer 219 = .ok (.aload_n 0, 1) := by decide +kernel
theorem dX11_answer_220 : decode cX11_answer 220 = .ok (.aload_n 0, 1) := by decide +kernel
theorem dX11_answer_221 : decode cX11_answer 221 = .ok (.getfield 66, 3) := by decide +kernel
theorem dX11_answer_224 : decode cX11_answer 224 = .ok (.iconst 0, 1) := by decide +kernel
theorem dX11_answer_225 : decode cX11_answer 225 = .ok (.iaload, 1) := by decide +kernel
theorem dX11_answer_226 : decode cX11_answer 226 = .ok (.iconst 2, 1) := by decide +kernel
theorem dX11_answer_227 : decode cX11_answer 227 = .ok (.invokevirtual 192, 3) := by decide +kernel
theorem dX11_answer_230 : decode cX11_answer 230 = .ok (.ireturn, 1) := by decide +kernel
theorem dX11_answer_231 : decode cX11_answer 231 = .ok (.aload_n 0, 1) := by decide +kernel
theorem dX11_answer_232 : decode cX11_answer 232 = .ok (.aload_n 0, 1) := by decide +kernel
theorem dX11_answer_233 : decode cX11_answer 233 = .ok (.getfield 66, 3) := by decide +kernel
theorem dX11_answer_236 : decode cX11_answer 236 = .ok (.iconst 0, 1) := by decide +kernel
theorem dX11_answer_237 : decode cX11_answer 237 = .ok (.iaload, 1) := by decide +kernel
theorem dX11_answer_238 : decode cX11_answer 238 = .ok (.iconst 0, 1) := by decide +kernel
theorem dX11_answer_239 : decode cX11_answer 239 = .ok (.invokevirtual 192, 3) := by decide +kernel
theorem dX11_answer_242 : decode cX11_answer 242 = .ok (.ireturn, 1) := by decide +kernel
theorem dX11_answer_243 : decode cX11_answer 243 = .ok (.aload_n 0, 1) := by decide +kernel
theorem dX11_answer_244 : decode cX11_answer 244 = .ok (.aload_n 0, 1) := by decide +kernel
theorem dX11_answer_245 : decode cX11_answer 245 = .ok (.getfield 66, 3) := by decide +kernel
theorem dX11_answer_248 : decode cX11_answer 248 = .ok (.iconst 0, 1) := by decide +kernel
theorem dX11_answer_249 : decode cX11_answer 249 = .ok (.iaload, 1) := by decide +kernel
theorem dX11_answer_250 : decode cX11_answer 250 = .ok (.invokevirtual 220, 3) := by decide +kernel
theorem dX11_answer_253 : decode cX11_answer 253 = .ok (.ireturn, 1) := by decide +kernel
theorem dX11_answer_254 : decode cX11_answer 254 = .ok (.aload_n 0, 1) := by decide +kernel
theorem dX11_answer_255 : decode cX11_answer 255 = .ok (.aload_n 0, 1) := by decide +kernel
theorem dX11_answer_256 : decode cX11_answer 256 = .ok (.getfield 66, 3) := by decide +kernel
theorem dX11_answer_259 : decode cX11_answer 259 = .ok (.iconst 0, 1) := by decide +kernel
theorem dX11_answer_260 : decode cX11_answer 260 = .ok (.iaload, 1) := by decide +kernel
theorem dX11_answer_261 : decode cX11_answer 261 = .ok (.iconst 4, 1) := by decide +kernel
theorem dX11_answer_262 : decode cX11_answer 262 = .ok (.invokevirtual 192, 3) := by decide +kernel
theorem dX11_answer_265 : decode cX11_answer 265 = .ok (.ireturn, 1) := by decide +kernel
theorem dX11_answer_266 : decode cX11_answer 266 = .ok (.aload_n 0, 1) := by decide +kernel
theorem dX11_answer_267 : decode cX11_answer 267 = .ok (.getfield 57, 3) := by decide +kernel
theorem dX11_answer_270 : decode cX11_answer 270 = .ok (.sipush 323, 3) := by decide +kernel
theorem dX11_answer_273 : decode cX11_answer 273 = .ok (.aload_n 0, 1) := by decide +kernel
theorem dX11_answer_274 : decode cX11_answer 274 = .ok (.getfield 66, 3) := by decide +kernel
theorem dX11_answer_277 : decode cX11_answer 277 = .ok (.iconst 0, 1) := by decide +kernel
theorem dX11_answer_278 : decode cX11_answer 278 = .ok (.iaload, 1) := by decide +kernel
theorem dX11_answer_279 : decode cX11_answer 279 = .ok (.iadd, 1) := by decide +kernel
theorem dX11_answer_280 : decode cX11_answer 280 = .ok (.iaload, 1) := by decide +kernel
theorem dX11_answer_281 : decode cX11_answer 281 = .ok (.ireturn, 1) := by decide +kernel
theorem dX11_answer_282 : decode cX11_answer 282 = .ok (.aload_n 0, 1) := by decide +kernel
theorem dX11_answer_283 : decode cX11_answer 283 = .ok (.getfield 57, 3) := by decide +kernel
theorem dX11_answer_286 : decode cX11_answer 286 = .ok (.sipush 384, 3) := by decide +kernel
theorem dX11_answer_289 : decode cX11_answer 289 = .ok (.aload_n 0, 1) := by decide +kernel
theorem dX11_answer_290 : decode cX11_answer 290 = .ok (.getfield 66, 3) := by decide +kernel
theorem dX11_answer_293 : decode cX11_answer 293 = .ok (.iconst 0, 1) := by decide +kernel
theorem dX11_answer_294 : decode cX11_answer 294 = .ok (.iaload, 1) := by decide +kernel
theorem dX11_answer_295 : decode cX11_answer 295 = .ok (.iadd, 1) := by decide +kernel
theorem dX11_answer_296 : decode cX11_answer 296 = .ok (.iaload, 1) := by decide +kernel
theorem dX11_answer_297 : decode cX11_answer 297 = .ok (.ireturn, 1) := by decide +kernel
theorem dX11_answer_298 : decode cX11_answer 298 = .ok (.aload_n 0, 1) := by decide +kernel
theorem dX11_answer_299 : decode cX11_answer 299 = .ok (.aload_n 0, 1) := by decide +kernel
theorem dX11_answer_300 : decode cX11_answer 300 = .ok (.getfield 66, 3) := by decide +kernel
theorem dX11_answer_303 : decode cX11_answer 303 = .ok (.iconst 0, 1) := by decide +kernel
theorem dX11_answer_304 : decode cX11_answer 304 = .ok (.iaload, 1) := by decide +kernel
theorem dX11_answer_305 : decode cX11_answer 305 = .ok (.invokevirtual 324, 3) := by decide +kernel
theorem dX11_answer_308 : decode cX11_answer 308 = .ok (.ireturn, 1) := by decide +kernel
theorem dX11_answer_309 : decode cX11_answer 309 = .ok (.aload_n 0, 1) := by decide +kernel
theorem dX11_answer_310 : decode cX11_answer 310 = .ok (.aload_n 0, 1) := by decide +kernel
theorem dX11_answer_311 : decode cX11_answer 311 = .ok (.getfield 66, 3) := by decide +kernel
theorem dX11_answer_314 : decode cX11_answer 314 = .ok (.iconst 0, 1) := by decide +kernel
theorem dX11_answer_315 : decode cX11_answer 315 = .ok (.iaload, 1) := by decide +kernel
theorem dX11_answer_316 : decode cX11_answer 316 = .ok (.iconst 0, 1) := by decide +kernel
theorem dX11_answer_317 : decode cX11_answer 317 = .ok (.invokevirtual 192, 3) := by decide +kernel
theorem dX11_answer_320 : decode cX11_answer 320 = .ok (.aload_n 0, 1) := by decide +kernel
theorem dX11_answer_321 : decode cX11_answer 321 = .ok (.getfield 39, 3) := by decide +kernel
theorem dX11_answer_324 : decode cX11_answer 324 = .ok (.iconst 3, 1) := by decide +kernel
theorem dX11_answer_325 : decode cX11_answer 325 = .ok (.aload_n 0, 1) := by decide +kernel
theorem dX11_answer_326 : decode cX11_answer 326 = .ok (.getfield 66, 3) := by decide +kernel
theorem dX11_answer_329 : decode cX11_answer 329 = .ok (.iconst 1, 1) := by decide +kernel
theorem dX11_answer_330 : decode cX11_answer 330 = .ok (.iaload, 1) := by decide +kernel
theorem dX11_answer_331 : decode cX11_answer 331 = .ok (.imul, 1) := by decide +kernel
theorem dX11_answer_332 : decode cX11_answer 332 = .ok (.iaload, 1) := by decide +kernel
theorem dX11_answer_333 : decode cX11_answer 333 = .ok (.if_icmp .eq 7, 3) := by decide +kernel
theorem dX11_answer_336 : decode cX11_answer 336 = .ok (.sipush 999, 3) := by decide +kernel
theorem dX11_answer_339 : decode cX11_answer 339 = .ok (.ireturn, 1) := by decide +kernel
theorem dX11_answer_340 : decode cX11_answer 340 = .ok (.aload_n 0, 1) := by decide +kernel
theorem dX11_answer_341 : decode cX11_answer 341 = .ok (.aload_n 0, 1) := by decide +kernel
theorem dX11_answer_342 : decode cX11_answer 342 = .ok (.getfield 66, 3) := by decide +kernel
theorem dX11_answer_345 : decode cX11_answer 345 = .ok (.iconst 0, 1) := by decide +kernel
theorem dX11_answer_346 : decode cX11_answer 346 = .ok (.iaload, 1) := by decide +kernel
theorem dX11_answer_347 : decode cX11_answer 347 = .ok (.iconst 1, 1) := by decide +kernel
theorem dX11_answer_348 : decode cX11_answer 348 = .ok (.invokevirtual 192, 3) := by decide +kernel
theorem dX11_answer_351 : decode cX11_answer 351 = .ok (.aload_n 0, 1) := by decide +kernel
theorem dX11_answer_352 : decode cX11_answer 352 = .ok (.getfield 39, 3) := by decide +kernel
theorem dX11_answer_355 : decode cX11_answer 355 = .ok (.iconst 3, 1) := by decide +kernel
theorem dX11_answer_356 : decode cX11_answer 356 = .ok (.aload_n 0, 1) := by decide +kernel
theorem dX11_answer_357 : decode cX11_answer 357 = .ok (.getfield 66, 3) := by decide +kernel
theorem dX11_answer_360 : decode cX11_answer 360 = .ok (.iconst 1, 1) := by decide +kernel
theorem dX11_answer_361 : decode cX11_answer 361 = .ok (.iaload, 1) := by decide +kernel
theorem dX11_answer_362 : decode cX11_answer 362 = .ok (.imul, 1) := by decide +kernel
theorem dX11_answer_363 : decode cX11_answer 363 = .ok (.iconst 1, 1) := by decide +kernel
theorem dX11_answer_364 : decode cX11_answer 364 = .ok (.iadd, 1) := by decide +kernel
theorem dX11_answer_365 : decode cX11_answer 365 = .ok (.iaload, 1) := by decide +kernel
theorem dX11_answer_366 : decode cX11_answer 366 = .ok (.isub, 1) := by decide +kernel
theorem dX11_answer_367 : decode cX11_answer 367 = .ok (.invokestatic 327, 3) := by decide +kernel
theorem dX11_answer_370 : decode cX11_answer 370 = .ok (.aload_n 0, 1) := by decide +kernel
theorem dX11_answer_371 : decode cX11_answer 371 = .ok (.aload_n 0, 1) := by decide +kernel
theorem dX11_answer_372 : decode cX11_answer 372 = .ok (.getfield 66, 3) := by decide +kernel
theorem dX11_answer_375 : decode cX11_answer 375 = .ok (.iconst 0, 1) := by decide +kernel
theorem dX11_answer_376 : decode cX11_answer 376 = .ok (.iaload, 1) := by decide +kernel
theorem dX11_answer_377 : decode cX11_answer 377 = .ok (.iconst 2, 1) := by decide +kernel
theorem dX11_answer_378 : decode cX11_answer 378 = .ok (.invokevirtual 192, 3) := by decide +kernel
theorem dX11_answer_381 : decode cX11_answer 381 = .ok (.aload_n 0, 1) := by decide +kernel
theorem dX11_answer_382 : decode cX11_answer 382 = .ok (.getfield 39, 3) := by decide +kernel
theorem dX11_answer_385 : decode cX11_answer 385 = .ok (.iconst 3, 1) := by decide +kernel
theorem dX11_answer_386 : decode cX11_answer 386 = .ok (.aload_n 0, 1) := by decide +kernel
theorem dX11_answer_387 : decode cX11_answer 387 = .ok (.getfield 66, 3) := by decide +kernel
theorem dX11_answer_390 : decode cX11_answer 390 = .ok (.iconst 1, 1) := by decide +kernel
theorem dX11_answer_391 : decode cX11_answer 391 = .ok (.iaload, 1) := by decide +kernel
theorem dX11_answer_392 : decode cX11_answer 392 = .ok (.imul, 1) := by decide +kernel
theorem dX11_answer_393 : decode cX11_answer 393 = .ok (.iconst 2, 1) := by decide +kernel
theorem dX11_answer_394 : decode cX11_answer 394 = .ok (.iadd, 1) := by decide +kernel
theorem dX11_answer_395 : decode cX11_answer 395 = .ok (.iaload, 1) := by decide +kernel
theorem dX11_answer_396 : decode cX11_answer 396 = .ok (.isub, 1) := by decide +kernel
theorem dX11_answer_397 : decode cX11_answer 397 = .ok (.invokestatic 327, 3) := by decide +kernel
theorem dX11_answer_400 : decode cX11_answer 400 = .ok (.iadd, 1) := by decide +kernel
theorem dX11_answer_401 : decode cX11_answer 401 = .ok (.ireturn, 1) := by decide +kernel
theorem dX11_answer_402 : decode cX11_answer 402 = .ok (.aload_n 0, 1) := by decide +kernel
theorem dX11_answer_403 : decode cX11_answer 403 = .ok (.getfield 57, 3) := by decide +kernel
theorem dX11_answer_406 : decode cX11_answer 406 = .ok (.iconst 1, 1) := by decide +kernel
theorem dX11_answer_407 : decode cX11_answer 407 = .ok (.aload_n 0, 1) := by decide +kernel
theorem dX11_answer_408 : decode cX11_answer 408 = .ok (.getfield 57, 3) := by decide +kernel
theorem dX11_answer_411 : decode cX11_answer 411 = .ok (.iconst 1, 1) := by decide +kernel
theorem dX11_answer_412 : decode cX11_answer 412 = .ok (.iaload, 1) := by decide +kernel
theorem dX11_answer_413 : decode cX11_answer 413 = .ok (.ldc_w 330, 3) := by decide +kernel
theorem dX11_answer_416 : decode cX11_answer 416 = .ok (.imul, 1) := by decide +kernel
theorem dX11_answer_417 : decode cX11_answer 417 = .ok (.sipush 12345, 3) := by decide +kernel
theorem dX11_answer_420 : decode cX11_answer 420 = .ok (.iadd, 1) := by decide +kernel
theorem dX11_answer_421 : decode cX11_answer 421 = .ok (.iastore, 1) := by decide +kernel
theorem dX11_answer_422 : decode cX11_answer 422 = .ok (.aload_n 0, 1) := by decide +kernel
theorem dX11_answer_423 : decode cX11_answer 423 = .ok (.getfield 66, 3) := by decide +kernel
theorem dX11_answer_426 : decode cX11_answer 426 = .ok (.iconst 0, 1) := by decide +kernel
theorem dX11_answer_427 : decode cX11_answer 427 = .ok (.iaload, 1) := by decide +kernel
theorem dX11_answer_428 : decode cX11_answer 428 = .ok (.ifCond .le 22, 3) := by decide +kernel
theorem dX11_answer_431 : decode cX11_answer 431 = .ok (.aload_n 0, 1) := by decide +kernel
theorem dX11_answer_432 : decode cX11_answer 432 = .ok (.getfield 57, 3) := by decide +kernel
theorem dX11_answer_435 : decode cX11_answer 435 = .ok (.iconst 1, 1) := by decide +kernel
theorem dX11_answer_436 : decode cX11_answer 436 = .ok (.iaload, 1) := by decide +kernel
theorem dX11_answer_437 : decode cX11_answer 437 = .ok (.ldc 207, 2) := by decide +kernel
theorem dX11_answer_439 : decode cX11_answer 439 = .ok (.iand, 1) := by decide +kernel
theorem dX11_answer_440 : decode cX11_answer 440 = .ok (.aload_n 0, 1) := by decide +kernel
theorem dX11_answer_441 : decode cX11_answer 441 = .ok (.getfield 66, 3) := by decide +kernel
theorem dX11_answer_444 : decode cX11_answer 444 = .ok (.iconst 0, 1) := by decide +kernel
theorem dX11_answer_445 : decode cX11_answer 445 = .ok (.iaload, 1) := by decide +kernel
theorem dX11_answer_446 : decode cX11_answer 446 = .ok (.irem, 1) := by decide +kernel
theorem dX11_answer_447 : decode cX11_answer 447 = .ok (.goto 4, 3) := by decide +kernel
theorem dX11_answer_450 : decode cX11_answer 450 = .ok (.iconst 0, 1) := by decide +kernel
theorem dX11_answer_451 : decode cX11_answer 451 = .ok (.ireturn, 1) := by decide +kernel
theorem dX11_running_0 : decode cX11_running 0 = .ok (.iconst 0, 1) := by decide +kernel
theorem dX11_running_1 : decode cX11_running 1 = .ok (.istore_n 2, 1) := by decide +kernel
theorem dX11_running_2 : decode cX11_running 2 = .ok (.iconst 0, 1) := by decide +kernel
theorem dX11_running_3 : decode cX11_running 3 = .ok (.istore_n 3, 1) := by decide +kernel
theorem dX11_running_4 : decode cX11_running 4 = .ok (.iload_n 3, 1) := by decide +kernel
theorem dX11_running_5 : decode cX11_running 5 = .ok (.bipush 8, 2) := by decide +kernel
theorem dX11_running_7 : decode cX11_running 7 = .ok (.if_icmp .ge 31, 3) := by decide +kernel
theorem dX11_running_10 : decode cX11_running 10 = .ok (.iload_n 2, 1) := by decide +kernel
theorem dX11_running_11 : decode cX11_running 11 = .ok (.iload_n 1, 1) := by decide +kernel
theorem dX11_running_12 : decode cX11_running 12 = .ok (.ifCond .eq 17, 3) := by decide +kernel
theorem dX11_running_15 : decode cX11_running 15 = .ok (.aload_n 0, 1) := by decide +kernel
theorem dX11_running_16 : decode cX11_running 16 = .ok (.iload_n 3, 1) := by decide +kernel
theorem dX11_running_17 : decode cX11_running 17 = .ok (.iconst 0, 1) := by decide +kernel
theorem dX11_running_18 : decode cX11_running 18 = .ok (.invokevirtual 158, 3) := by decide +kernel
theorem dX11_running_21 : decode cX11_running 21 = .ok (.iload_n 1, 1) := by decide +kernel
theorem dX11_running_22 : decode cX11_running 22 = .ok (.if_icmp .ne 7, 3) := by decide +kernel
theorem dX11_running_25 : decode cX11_running 25 = .ok (.iconst 1, 1) := by decide +kernel
theorem dX11_running_26 : decode cX11_running 26 = .ok (.goto 4, 3) := by decide +kernel
theorem dX11_running_29 : decode cX11_running 29 = .ok (.iconst 0, 1) := by decide +kernel
theorem dX11_running_30 : decode cX11_running 30 = .ok (.iadd, 1) := by decide +kernel
theorem dX11_running_31 : decode cX11_running 31 = .ok (.istore_n 2, 1) := by decide +kernel
theorem dX11_running_32 : decode cX11_running 32 = .ok (.iinc 3 1, 3) := by decide +kernel
theorem dX11_running_35 : decode cX11_running 35 = .ok (.goto (-31), 3) := by decide +kernel
theorem dX11_running_38 : decode cX11_running 38 = .ok (.iload_n 2, 1) := by decide +kernel
theorem dX11_running_39 : decode cX11_running 39 = .ok (.ireturn, 1) := by decide +kernel
theorem dX11_turn_0 : decode cX11_turn 0 = .ok (.aload_n 0, 1) := by decide +kernel
theorem dX11_turn_1 : decode cX11_turn 1 = .ok (.iload_n 1, 1) := by decide +kernel
theorem dX11_turn_2 : decode cX11_turn 2 = .ok (.putfield 233, 3) := by decide +kernel
theorem dX11_turn_5 : decode cX11_turn 5 = .ok (.aload_n 0, 1) := by decide +kernel
theorem dX11_turn_6 : decode cX11_turn 6 = .ok (.iload_n 1, 1) := by decide +kernel
theorem dX11_turn_7 : decode cX11_turn 7 = .ok (.iconst 0, 1) := by decide +kernel
theorem dX11_turn_8 : decode cX11_turn 8 = .ok (.invokevirtual 158, 3) := by decide +kernel
theorem dX11_turn_11 : decode cX11_turn 11 = .ok (.ifCond .eq 13, 3) := by decide +kernel
theorem dX11_turn_14 : decode cX11_turn 14 = .ok (.aload_n 0, 1) := by decide +kernel
theorem dX11_turn_15 : decode cX11_turn 15 = .ok (.iload_n 1, 1) := by decide +kernel
theorem dX11_turn_16 : decode cX11_turn 16 = .ok (.iconst 4, 1) := by decide +kernel
theorem dX11_turn_17 : decode cX11_turn 17 = .ok (.invokevirtual 158, 3) := by decide +kernel
theorem dX11_turn_20 : decode cX11_turn 20 = .ok (.iconst 1, 1) := by decide +kernel
theorem dX11_turn_21 : decode cX11_turn 21 = .ok (.if_icmp .ne 5, 3) := by decide +kernel
theorem dX11_turn_24 : decode cX11_turn 24 = .ok (.iconst 0, 1) := by decide +kernel
theorem dX11_turn_25 : decode cX11_turn 25 = .ok (.ireturn, 1) := by decide +kernel
theorem dX11_turn_26 : decode cX11_turn 26 = .ok (.aload_n 0, 1) := by decide +kernel
theorem dX11_turn_27 : decode cX11_turn 27 = .ok (.iload_n 1, 1) := by decide +kernel
theorem dX11_turn_28 : decode cX11_turn 28 = .ok (.iconst 2, 1) := by decide +kernel
theorem dX11_turn_29 : decode cX11_turn 29 = .ok (.invokevirtual 158, 3) := by decide +kernel
theorem dX11_turn_32 : decode cX11_turn 32 = .ok (.ifCond .le 28, 3) := by decide +kernel
theorem dX11_turn_35 : decode cX11_turn 35 = .ok (.aload_n 0, 1) := by decide +kernel
theorem dX11_turn_36 : decode cX11_turn 36 = .ok (.iload_n 1, 1) := by decide +kernel
theorem dX11_turn_37 : decode cX11_turn 37 = .ok (.iconst 2, 1) := by decide +kernel
theorem dX11_turn_38 : decode cX11_turn 38 = .ok (.aload_n 0, 1) := by decide +kernel
theorem dX11_turn_39 : decode cX11_turn 39 = .ok (.iload_n 1, 1) := by decide +kernel
theorem dX11_turn_40 : decode cX11_turn 40 = .ok (.iconst 2, 1) := by decide +kernel
theorem dX11_turn_41 : decode cX11_turn 41 = .ok (.invokevirtual 158, 3) := by decide +kernel
theorem dX11_turn_44 : decode cX11_turn 44 = .ok (.iconst 1, 1) := by decide +kernel
theorem dX11_turn_45 : decode cX11_turn 45 = .ok (.isub, 1) := by decide +kernel
theorem dX11_turn_46 : decode cX11_turn 46 = .ok (.invokevirtual 148, 3) := by decide +kernel
theorem dX11_turn_49 : decode cX11_turn 49 = .ok (.aload_n 0, 1) := by decide +kernel
theorem dX11_turn_50 : decode cX11_turn 50 = .ok (.iload_n 1, 1) := by decide +kernel
theorem dX11_turn_51 : decode cX11_turn 51 = .ok (.iconst 2, 1) := by decide +kernel
theorem dX11_turn_52 : decode cX11_turn 52 = .ok (.invokevirtual 158, 3) := by decide +kernel
theorem dX11_turn_55 : decode cX11_turn 55 = .ok (.ifCond .le 5, 3) := by decide +kernel
theorem dX11_turn_58 : decode cX11_turn 58 = .ok (.iconst 0, 1) := by decide +kernel
theorem dX11_turn_59 : decode cX11_turn 59 = .ok (.ireturn, 1) := by decide +kernel
theorem dX11_turn_60 : decode cX11_turn 60 = .ok (.aload_n 0, 1) := by decide +kernel
theorem dX11_turn_61 : decode cX11_turn 61 = .ok (.iload_n 1, 1) := by decide +kernel
theorem dX11_turn_62 : decode cX11_turn 62 = .ok (.iconst 3, 1) := by decide +kernel
theorem dX11_turn_63 : decode cX11_turn 63 = .ok (.invokevirtual 158, 3) := by decide +kernel
theorem dX11_turn_66 : decode cX11_turn 66 = .ok (.ifCond .eq 27, 3) := by decide +kernel
theorem dX11_turn_69 : decode cX11_turn 69 = .ok (.aload_n 0, 1) := by decide +kernel
theorem dX11_turn_70 : decode cX11_turn 70 = .ok (.aload_n 0, 1) := by decide +kernel
theorem dX11_turn_71 : decode cX11_turn 71 = .ok (.iload_n 1, 1) := by decide +kernel
theorem dX11_turn_72 : decode cX11_turn 72 = .ok (.iconst 3, 1) := by decide +kernel
theorem dX11_turn_73 : decode cX11_turn 73 = .ok (.invokevirtual 158, 3) := by decide +kernel
theorem dX11_turn_76 : decode cX11_turn 76 = .ok (.iconst 4, 1) := by decide +kernel
theorem dX11_turn_77 : decode cX11_turn 77 = .ok (.invokevirtual 192, 3) := by decide +kernel
theorem dX11_turn_80 : decode cX11_turn 80 = .ok (.iconst 1, 1) := by decide +kernel
theorem dX11_turn_81 : decode cX11_turn 81 = .ok (.if_icmp .ne 5, 3) := by decide +kernel
theorem dX11_turn_84 : decode cX11_turn 84 = .ok (.iconst 0, 1) := by decide +kernel
theorem dX11_turn_85 : decode cX11_turn 85 = .ok (.ireturn, 1) := by decide +kernel
theorem dX11_turn_86 : decode cX11_turn 86 = .ok (.aload_n 0, 1) := by decide +kernel
theorem dX11_turn_87 : decode cX11_turn 87 = .ok (.iload_n 1, 1) := by decide +kernel
theorem dX11_turn_88 : decode cX11_turn 88 = .ok (.iconst 3, 1) := by decide +kernel
theorem dX11_turn_89 : decode cX11_turn 89 = .ok (.iconst 0, 1) := by decide +kernel
theorem dX11_turn_90 : decode cX11_turn 90 = .ok (.invokevirtual 148, 3) := by decide +kernel
theorem dX11_turn_93 : decode cX11_turn 93 = .ok (.iconst 0, 1) := by decide +kernel
theorem dX11_turn_94 : decode cX11_turn 94 = .ok (.istore_n 2, 1) := by decide +kernel
theorem dX11_turn_95 : decode cX11_turn 95 = .ok (.iconst 1, 1) := by decide +kernel
theorem dX11_turn_96 : decode cX11_turn 96 = .ok (.istore_n 3, 1) := by decide +kernel
theorem dX11_turn_97 : decode cX11_turn 97 = .ok (.iload_n 3, 1) := by decide +kernel
theorem dX11_turn_98 : decode cX11_turn 98 = .ok (.ifCond .eq 100, 3) := by decide +kernel
theorem dX11_turn_101 : decode cX11_turn 101 = .ok (.iload_n 2, 1) := by decide +kernel
theorem dX11_turn_102 : decode cX11_turn 102 = .ok (.sipush 300, 3) := by decide +kernel
theorem dX11_turn_105 : decode cX11_turn 105 = .ok (.if_icmp .ge 93, 3) := by decide +kernel
theorem dX11_turn_108 : decode cX11_turn 108 = .ok (.aload_n 0, 1) := by decide +kernel
theorem dX11_turn_109 : decode cX11_turn 109 = .ok (.iconst 0, 1) := by decide +kernel
theorem dX11_turn_110 : decode cX11_turn 110 = .ok (.putfield 236, 3) := by decide +kernel
theorem dX11_turn_113 : decode cX11_turn 113 = .ok (.aload_n 0, 1) := by decide +kernel
theorem dX11_turn_114 : decode cX11_turn 114 = .ok (.aload_n 0, 1) := by decide +kernel
theorem dX11_turn_115 : decode cX11_turn 115 = .ok (.iload_n 1, 1) := by decide +kernel
theorem dX11_turn_116 : decode cX11_turn 116 = .ok (.iconst 1, 1) := by decide +kernel
theorem dX11_turn_117 : decode cX11_turn 117 = .ok (.invokevirtual 158, 3) := by decide +kernel
theorem dX11_turn_120 : decode cX11_turn 120 = .ok (.putfield 239, 3) := by decide +kernel
theorem dX11_turn_123 : decode cX11_turn 123 = .ok (.aload_n 0, 1) := by decide +kernel
theorem dX11_turn_124 : decode cX11_turn 124 = .ok (.invokevirtual 242, 3) := by decide +kernel
theorem dX11_turn_127 : decode cX11_turn 127 = .ok (.istore 4, 2) := by decide +kernel
theorem dX11_turn_129 : decode cX11_turn 129 = .ok (.aload_n 0, 1) := by decide +kernel
theorem dX11_turn_130 : decode cX11_turn 130 = .ok (.getfield 236, 3) := by decide +kernel
theorem dX11_turn_133 : decode cX11_turn 133 = .ok (.ifCond .ne 9, 3) := by decide +kernel
theorem dX11_turn_136 : decode cX11_turn 136 = .ok (.aload_n 0, 1) := by decide +kernel
theorem dX11_turn_137 : decode cX11_turn 137 = .ok (.iload 4, 2) := by decide +kernel
theorem dX11_turn_139 : decode cX11_turn 139 = .ok (.invokevirtual 331, 3) := by decide +kernel
theorem dX11_turn_142 : decode cX11_turn 142 = .ok (.aload_n 0, 1) := by decide +kernel
theorem dX11_turn_143 : decode cX11_turn 143 = .ok (.getfield 236, 3) := by decide +kernel
theorem dX11_turn_146 : decode cX11_turn 146 = .ok (.ifCond .ne 12, 3) := by decide +kernel
theorem dX11_turn_149 : decode cX11_turn 149 = .ok (.aload_n 0, 1) := by decide +kernel
theorem dX11_turn_150 : decode cX11_turn 150 = .ok (.iload 4, 2) := by decide +kernel
theorem dX11_turn_152 : decode cX11_turn 152 = .ok (.invokevirtual 334, 3) := by decide +kernel
theorem dX11_turn_155 : decode cX11_turn 155 = .ok (.ifCond .ne 20, 3) := by decide +kernel
theorem dX11_turn_158 : decode cX11_turn 158 = .ok (.aload_n 0, 1) := by decide +kernel
theorem dX11_turn_159 : decode cX11_turn 159 = .ok (.iload_n 1, 1) := by decide +kernel
theorem dX11_turn_160 : decode cX11_turn 160 = .ok (.invokevirtual 161, 3) := by decide +kernel
theorem dX11_turn_163 : decode cX11_turn 163 = .ok (.aload_n 0, 1) := by decide +kernel
theorem dX11_turn_164 : decode cX11_turn 164 = .ok (.getfield 57, 3) := by decide +kernel
theorem dX11_turn_167 : decode cX11_turn 167 = .ok (.iconst 3, 1) := by decide +kernel
theorem dX11_turn_168 : decode cX11_turn 168 = .ok (.dup2, 1) := by decide +kernel
theorem dX11_turn_169 : decode cX11_turn 169 = .ok (.iaload, 1) := by decide +kernel
theorem dX11_turn_170 : decode cX11_turn 170 = .ok (.iconst 1, 1) := by decide +kernel
theorem dX11_turn_171 : decode cX11_turn 171 = .ok (.iadd, 1) := by decide +kernel
theorem dX11_turn_172 : decode cX11_turn 172 = .ok (.iastore, 1) := by decide +kernel
theorem dX11_turn_173 : decode cX11_turn 173 = .ok (.iload_n 2, 1) := by decide +kernel
theorem dX11_turn_174 : decode cX11_turn 174 = .ok (.ireturn, 1) := by decide +kernel
theorem dX11_turn_175 : decode cX11_turn 175 = .ok (.aload_n 0, 1) := by decide +kernel
theorem dX11_turn_176 : decode cX11_turn 176 = .ok (.iload_n 1, 1) := by decide +kernel
theorem dX11_turn_177 : decode cX11_turn 177 = .ok (.iconst 1, 1) := by decide +kernel
theorem dX11_turn_178 : decode cX11_turn 178 = .ok (.aload_n 0, 1) := by decide +kernel
theorem dX11_turn_179 : decode cX11_turn 179 = .ok (.getfield 239, 3) := by decide +kernel
theorem dX11_turn_182 : decode cX11_turn 182 = .ok (.invokevirtual 148, 3) := by decide +kernel
theorem dX11_turn_185 : decode cX11_turn 185 = .ok (.aload_n 0, 1) := by decide +kernel
theorem dX11_turn_186 : decode cX11_turn 186 = .ok (.iload 4, 2) := by decide +kernel
theorem dX11_turn_188 : decode cX11_turn 188 = .ok (.invokevirtual 337, 3) := by decide +kernel
theorem dX11_turn_191 : decode cX11_turn 191 = .ok (.istore_n 3, 1) := by decide +kernel
theorem dX11_turn_192 : decode cX11_turn 192 = .ok (.iinc 2 1, 3) := by decide +kernel
theorem dX11_turn_195 : decode cX11_turn 195 = .ok (.goto (-98), 3) := by decide +kernel
theorem dX11_turn_198 : decode cX11_turn 198 = .ok (.iload_n 2, 1) := by decide +kernel
theorem dX11_turn_199 : decode cX11_turn 199 = .ok (.ireturn, 1) := by decide +kernel
theorem dX11_isAtSentence_0 : decode cX11_isAtSentence 0 = .ok (.iconst 0, 1) := by decide +kernel
theorem dX11_isAtSentence_1 : decode cX11_isAtSentence 1 = .ok (.istore_n 1, 1) := by decide +kernel
theorem dX11_isAtSentence_2 : decode cX11_isAtSentence 2 = .ok (.iload_n 1, 1) := by decide +kernel
theorem dX11_isAtSentence_3 : decode cX11_isAtSentence 3 = .ok (.bipush 8, 2) := by decide +kernel
theorem dX11_isAtSentence_5 : decode cX11_isAtSentence 5 = .ok (.if_icmp .ge 30, 3) := by decide +kernel
theorem dX11_isAtSentence_8 : decode cX11_isAtSentence 8 = .ok (.aload_n 0, 1) := by decide +kernel
theorem dX11_isAtSentence_9 : decode cX11_isAtSentence 9 = .ok (.iload_n 1, 1) := by decide +kernel
theorem dX11_isAtSentence_10 : decode cX11_isAtSentence 10 = .ok (.iconst 0, 1) := by decide +kernel
theorem dX11_isAtSentence_11 : decode cX11_isAtSentence 11 = .ok (.invokevirtual 158, 3) := by decide +kernel
theorem dX11_isAtSentence_14 : decode cX11_isAtSentence 14 = .ok (.ifCond .eq 15, 3) := by decide +kernel
theorem dX11_isAtSentence_17 : decode cX11_isAtSentence 17 = .ok (.aload_n 0, 1) := by decide +kernel
theorem dX11_isAtSentence_18 : decode cX11_isAtSentence 18 = .ok (.iload_n 1, 1) := by decide +kernel
theorem dX11_isAtSentence_19 : decode cX11_isAtSentence 19 = .ok (.iconst 5, 1) := by decide +kernel
theorem dX11_isAtSentence_20 : decode cX11_isAtSentence 20 = .ok (.invokevirtual 158, 3) := by decide +kernel
theorem dX11_isAtSentence_23 : decode cX11_isAtSentence 23 = .ok (.iconst 1, 1) := by decide +kernel
theorem dX11_isAtSentence_24 : decode cX11_isAtSentence 24 = .ok (.if_icmp .ne 5, 3) := by decide +kernel
theorem dX11_isAtSentence_27 : decode cX11_isAtSentence 27 = .ok (.iconst 1, 1) := by decide +kernel
theorem dX11_isAtSentence_28 : decode cX11_isAtSentence 28 = .ok (.ireturn, 1) := by decide +kernel
theorem dX11_isAtSentence_29 : decode cX11_isAtSentence 29 = .ok (.iinc 1 1, 3) := by decide +kernel
theorem dX11_isAtSentence_32 : decode cX11_isAtSentence 32 = .ok (.goto (-30), 3) := by decide +kernel
theorem dX11_isAtSentence_35 : decode cX11_isAtSentence 35 = .ok (.iconst 0, 1) := by decide +kernel
theorem dX11_isAtSentence_36 : decode cX11_isAtSentence 36 = .ok (.ireturn, 1) := by decide +kernel
theorem dX11_takesSentence_0 : decode cX11_takesSentence 0 = .ok (.aload_n 0, 1) := by decide +kernel
theorem dX11_takesSentence_1 : decode cX11_takesSentence 1 = .ok (.getfield 57, 3) := by decide +kernel
theorem dX11_takesSentence_4 : decode cX11_takesSentence 4 = .ok (.sipush 150, 3) := by decide +kernel
theorem dX11_takesSentence_7 : decode cX11_takesSentence 7 = .ok (.iaload, 1) := by decide +kernel
theorem dX11_takesSentence_8 : decode cX11_takesSentence 8 = .ok (.istore_n 1, 1) := by decide +kernel
theorem dX11_takesSentence_9 : decode cX11_takesSentence 9 = .ok (.aload_n 0, 1) := by decide +kernel
theorem dX11_takesSentence_10 : decode cX11_takesSentence 10 = .ok (.getfield 57, 3) := by decide +kernel
theorem dX11_takesSentence_13 : decode cX11_takesSentence 13 = .ok (.sipush 151, 3) := by decide +kernel
theorem dX11_takesSentence_16 : decode cX11_takesSentence 16 = .ok (.iaload, 1) := by decide +kernel
theorem dX11_takesSentence_17 : decode cX11_takesSentence 17 = .ok (.istore_n 2, 1) := by decide +kernel
theorem dX11_takesSentence_18 : decode cX11_takesSentence 18 = .ok (.iconst 0, 1) := by decide +kernel
theorem dX11_takesSentence_19 : decode cX11_takesSentence 19 = .ok (.istore_n 3, 1) := by decide +kernel
theorem dX11_takesSentence_20 : decode cX11_takesSentence 20 = .ok (.iload_n 3, 1) := by decide +kernel
theorem dX11_takesSentence_21 : decode cX11_takesSentence 21 = .ok (.iconst 3, 1) := by decide +kernel
theorem dX11_takesSentence_22 : decode cX11_takesSentence 22 = .ok (.if_icmp .ge 28, 3) := by decide +kernel
theorem dX11_takesSentence_25 : decode cX11_takesSentence 25 = .ok (.aload_n 0, 1) := by decide +kernel
theorem dX11_takesSentence_26 : decode cX11_takesSentence 26 = .ok (.getfield 57, 3) := by decide +kernel
theorem dX11_takesSentence_29 : decode cX11_takesSentence 29 = .ok (.bipush 7, 2) := by decide +kernel
theorem dX11_takesSentence_31 : decode cX11_takesSentence 31 = .ok (.iload_n 3, 1) := by decide +kernel
theorem dX11_takesSentence_32 : decode cX11_takesSentence 32 = .ok (.iadd, 1) := by decide +kernel
theorem dX11_takesSentence_33 : decode cX11_takesSentence 33 = .ok (.aload_n 0, 1) := by decide +kernel
theorem dX11_takesSentence_34 : decode cX11_takesSentence 34 = .ok (.getfield 57, 3) := by decide +kernel
theorem dX11_takesSentence_37 : decode cX11_takesSentence 37 = .ok (.sipush 150, 3) := by decide +kernel
theorem dX11_takesSentence_40 : decode cX11_takesSentence 40 = .ok (.iload_n 3, 1) := by decide +kernel
theorem dX11_takesSentence_41 : decode cX11_takesSentence 41 = .ok (.iadd, 1) := by decide +kernel
theorem dX11_takesSentence_42 : decode cX11_takesSentence 42 = .ok (.iaload, 1) := by decide +kernel
theorem dX11_takesSentence_43 : decode cX11_takesSentence 43 = .ok (.iastore, 1) := by decide +kernel
theorem dX11_takesSentence_44 : decode cX11_takesSentence 44 = .ok (.iinc 3 1, 3) := by decide +kernel
theorem dX11_takesSentence_47 : decode cX11_takesSentence 47 = .ok (.goto (-27), 3) := by decide +kernel
theorem dX11_takesSentence_50 : decode cX11_takesSentence 50 = .ok (.iconst 0, 1) := by decide +kernel
theorem dX11_takesSentence_51 : decode cX11_takesSentence 51 = .ok (.istore_n 3, 1) := by decide +kernel
theorem dX11_takesSentence_52 : decode cX11_takesSentence 52 = .ok (.iload_n 3, 1) := by decide +kernel
theorem dX11_takesSentence_53 : decode cX11_takesSentence 53 = .ok (.bipush 15, 2) := by decide +kernel
theorem dX11_takesSentence_55 : decode cX11_takesSentence 55 = .ok (.if_icmp .ge 29, 3) := by decide +kernel
theorem dX11_takesSentence_58 : decode cX11_takesSentence 58 = .ok (.aload_n 0, 1) := by decide +kernel
theorem dX11_takesSentence_59 : decode cX11_takesSentence 59 = .ok (.getfield 57, 3) := by decide +kernel
theorem dX11_takesSentence_62 : decode cX11_takesSentence 62 = .ok (.sipush 150, 3) := by decide +kernel
theorem dX11_takesSentence_65 : decode cX11_takesSentence 65 = .ok (.iload_n 3, 1) := by decide +kernel
theorem dX11_takesSentence_66 : decode cX11_takesSentence 66 = .ok (.iadd, 1) := by decide +kernel
theorem dX11_takesSentence_67 : decode cX11_takesSentence 67 = .ok (.aload_n 0, 1) := by decide +kernel
theorem dX11_takesSentence_68 : decode cX11_takesSentence 68 = .ok (.getfield 57, 3) := by decide +kernel
theorem dX11_takesSentence_71 : decode cX11_takesSentence 71 = .ok (.sipush 153, 3) := by decide +kernel
theorem dX11_takesSentence_74 : decode cX11_takesSentence 74 = .ok (.iload_n 3, 1) := by decide +kernel
theorem dX11_takesSentence_75 : decode cX11_takesSentence 75 = .ok (.iadd, 1) := by decide +kernel
theorem dX11_takesSentence_76 : decode cX11_takesSentence 76 = .ok (.iaload, 1) := by decide +kernel
theorem dX11_takesSentence_77 : decode cX11_takesSentence 77 = .ok (.iastore, 1) := by decide +kernel
theorem dX11_takesSentence_78 : decode cX11_takesSentence 78 = .ok (.iinc 3 1, 3) := by decide +kernel
theorem dX11_takesSentence_81 : decode cX11_takesSentence 81 = .ok (.goto (-29), 3) := by decide +kernel
theorem dX11_takesSentence_84 : decode cX11_takesSentence 84 = .ok (.aload_n 0, 1) := by decide +kernel
theorem dX11_takesSentence_85 : decode cX11_takesSentence 85 = .ok (.getfield 57, 3) := by decide +kernel
theorem dX11_takesSentence_88 : decode cX11_takesSentence 88 = .ok (.iconst 5, 1) := by decide +kernel
theorem dX11_takesSentence_89 : decode cX11_takesSentence 89 = .ok (.dup2, 1) := by decide +kernel
theorem dX11_takesSentence_90 : decode cX11_takesSentence 90 = .ok (.iaload, 1) := by decide +kernel
theorem dX11_takesSentence_91 : decode cX11_takesSentence 91 = .ok (.iconst 1, 1) := by decide +kernel
theorem dX11_takesSentence_92 : decode cX11_takesSentence 92 = .ok (.isub, 1) := by decide +kernel
theorem dX11_takesSentence_93 : decode cX11_takesSentence 93 = .ok (.iastore, 1) := by decide +kernel
theorem dX11_takesSentence_94 : decode cX11_takesSentence 94 = .ok (.aload_n 0, 1) := by decide +kernel
theorem dX11_takesSentence_95 : decode cX11_takesSentence 95 = .ok (.iload_n 2, 1) := by decide +kernel
theorem dX11_takesSentence_96 : decode cX11_takesSentence 96 = .ok (.invokevirtual 292, 3) := by decide +kernel
theorem dX11_takesSentence_99 : decode cX11_takesSentence 99 = .ok (.ifCond .ne 4, 3) := by decide +kernel
theorem dX11_takesSentence_102 : decode cX11_takesSentence 102 = .ok (.return_, 1) := by decide +kernel
theorem dX11_takesSentence_103 : decode cX11_takesSentence 103 = .ok (.aload_n 0, 1) := by decide +kernel
theorem dX11_takesSentence_104 : decode cX11_takesSentence 104 = .ok (.iload_n 2, 1) := by decide +kernel
theorem dX11_takesSentence_105 : decode cX11_takesSentence 105 = .ok (.iload_n 1, 1) := by decide +kernel
theorem dX11_takesSentence_106 : decode cX11_takesSentence 106 = .ok (.invokevirtual 340, 3) := by decide +kernel
theorem dX11_takesSentence_109 : decode cX11_takesSentence 109 = .ok (.istore_n 3, 1) := by decide +kernel
theorem dX11_takesSentence_110 : decode cX11_takesSentence 110 = .ok (.iload_n 3, 1) := by decide +kernel
theorem dX11_takesSentence_111 : decode cX11_takesSentence 111 = .ok (.ifCond .ne 14, 3) := by decide +kernel
theorem dX11_takesSentence_114 : decode cX11_takesSentence 114 = .ok (.aload_n 0, 1) := by decide +kernel
theorem dX11_takesSentence_115 : decode cX11_takesSentence 115 = .ok (.iload_n 2, 1) := by decide +kernel
theorem dX11_takesSentence_116 : decode cX11_takesSentence 116 = .ok (.sipush 255, 3) := by decide +kernel
theorem dX11_takesSentence_119 : decode cX11_takesSentence 119 = .ok (.invokevirtual 340, 3) := by decide +kernel
theorem dX11_takesSentence_122 : decode cX11_takesSentence 122 = .ok (.goto 4, 3) := by decide +kernel
theorem dX11_takesSentence_125 : decode cX11_takesSentence 125 = .ok (.iload_n 3, 1) := by decide +kernel
theorem dX11_takesSentence_126 : decode cX11_takesSentence 126 = .ok (.istore_n 3, 1) := by decide +kernel
theorem dX11_takesSentence_127 : decode cX11_takesSentence 127 = .ok (.aload_n 0, 1) := by decide +kernel
theorem dX11_takesSentence_128 : decode cX11_takesSentence 128 = .ok (.iload_n 3, 1) := by decide +kernel
theorem dX11_takesSentence_129 : decode cX11_takesSentence 129 = .ok (.invokevirtual 298, 3) := by decide +kernel
theorem dX11_takesSentence_132 : decode cX11_takesSentence 132 = .ok (.istore 4, 2) := by decide +kernel
theorem dX11_takesSentence_134 : decode cX11_takesSentence 134 = .ok (.iload 4, 2) := by decide +kernel
theorem dX11_takesSentence_136 : decode cX11_takesSentence 136 = .ok (.ifCond .lt 11, 3) := by decide +kernel
theorem dX11_takesSentence_139 : decode cX11_takesSentence 139 = .ok (.aload_n 0, 1) := by decide +kernel
theorem dX11_takesSentence_140 : decode cX11_takesSentence 140 = .ok (.iload 4, 2) := by decide +kernel
theorem dX11_takesSentence_142 : decode cX11_takesSentence 142 = .ok (.iconst 5, 1) := by decide +kernel
theorem dX11_takesSentence_143 : decode cX11_takesSentence 143 = .ok (.iconst 1, 1) := by decide +kernel
theorem dX11_takesSentence_144 : decode cX11_takesSentence 144 = .ok (.invokevirtual 148, 3) := by decide +kernel
theorem dX11_takesSentence_147 : decode cX11_takesSentence 147 = .ok (.return_, 1) := by decide +kernel
theorem dX11_one_0 : decode cX11_one 0 = .ok (.aload_n 0, 1) := by decide +kernel
theorem dX11_one_1 : decode cX11_one 1 = .ok (.getfield 57, 3) := by decide +kernel
theorem dX11_one_4 : decode cX11_one 4 = .ok (.iconst 0, 1) := by decide +kernel
theorem dX11_one_5 : decode cX11_one 5 = .ok (.dup2, 1) := by decide +kernel
theorem dX11_one_6 : decode cX11_one 6 = .ok (.iaload, 1) := by decide +kernel
theorem dX11_one_7 : decode cX11_one 7 = .ok (.iconst 1, 1) := by decide +kernel
theorem dX11_one_8 : decode cX11_one 8 = .ok (.iadd, 1) := by decide +kernel
theorem dX11_one_9 : decode cX11_one 9 = .ok (.iastore, 1) := by decide +kernel
theorem dX11_one_10 : decode cX11_one 10 = .ok (.aload_n 0, 1) := by decide +kernel
theorem dX11_one_11 : decode cX11_one 11 = .ok (.getfield 57, 3) := by decide +kernel
theorem dX11_one_14 : decode cX11_one 14 = .ok (.bipush 6, 2) := by decide +kernel
theorem dX11_one_16 : decode cX11_one 16 = .ok (.aload_n 0, 1) := by decide +kernel
theorem dX11_one_17 : decode cX11_one 17 = .ok (.getfield 57, 3) := by decide +kernel
theorem dX11_one_20 : decode cX11_one 20 = .ok (.iconst 0, 1) := by decide +kernel
theorem dX11_one_21 : decode cX11_one 21 = .ok (.iaload, 1) := by decide +kernel
theorem dX11_one_22 : decode cX11_one 22 = .ok (.iastore, 1) := by decide +kernel
theorem dX11_one_23 : decode cX11_one 23 = .ok (.aload_n 0, 1) := by decide +kernel
theorem dX11_one_24 : decode cX11_one 24 = .ok (.getfield 57, 3) := by decide +kernel
theorem dX11_one_27 : decode cX11_one 27 = .ok (.iconst 5, 1) := by decide +kernel
theorem dX11_one_28 : decode cX11_one 28 = .ok (.iaload, 1) := by decide +kernel
theorem dX11_one_29 : decode cX11_one 29 = .ok (.ifCond .le 14, 3) := by decide +kernel
theorem dX11_one_32 : decode cX11_one 32 = .ok (.aload_n 0, 1) := by decide +kernel
theorem dX11_one_33 : decode cX11_one 33 = .ok (.invokevirtual 343, 3) := by decide +kernel
theorem dX11_one_36 : decode cX11_one 36 = .ok (.ifCond .ne 7, 3) := by decide +kernel
theorem dX11_one_39 : decode cX11_one 39 = .ok (.aload_n 0, 1) := by decide +kernel
theorem dX11_one_40 : decode cX11_one 40 = .ok (.invokevirtual 346, 3) := by decide +kernel
theorem dX11_one_43 : decode cX11_one 43 = .ok (.iconst 0, 1) := by decide +kernel
theorem dX11_one_44 : decode cX11_one 44 = .ok (.istore_n 1, 1) := by decide +kernel
theorem dX11_one_45 : decode cX11_one 45 = .ok (.iconst 0, 1) := by decide +kernel
theorem dX11_one_46 : decode cX11_one 46 = .ok (.istore_n 2, 1) := by decide +kernel
theorem dX11_one_47 : decode cX11_one 47 = .ok (.iload_n 2, 1) := by decide +kernel
theorem dX11_one_48 : decode cX11_one 48 = .ok (.bipush 8, 2) := by decide +kernel
theorem dX11_one_50 : decode cX11_one 50 = .ok (.if_icmp .ge 17, 3) := by decide +kernel
theorem dX11_one_53 : decode cX11_one 53 = .ok (.iload_n 1, 1) := by decide +kernel
theorem dX11_one_54 : decode cX11_one 54 = .ok (.aload_n 0, 1) := by decide +kernel
theorem dX11_one_55 : decode cX11_one 55 = .ok (.iload_n 2, 1) := by decide +kernel
theorem dX11_one_56 : decode cX11_one 56 = .ok (.invokevirtual 349, 3) := by decide +kernel
theorem dX11_one_59 : decode cX11_one 59 = .ok (.iadd, 1) := by decide +kernel
theorem dX11_one_60 : decode cX11_one 60 = .ok (.istore_n 1, 1) := by decide +kernel
theorem dX11_one_61 : decode cX11_one 61 = .ok (.iinc 2 1, 3) := by decide +kernel
theorem dX11_one_64 : decode cX11_one 64 = .ok (.goto (-17), 3) := by decide +kernel
theorem dX11_one_67 : decode cX11_one 67 = .ok (.iconst 1, 1) := by decide +kernel
theorem dX11_one_68 : decode cX11_one 68 = .ok (.istore_n 2, 1) := by decide +kernel
theorem dX11_one_69 : decode cX11_one 69 = .ok (.iload_n 2, 1) := by decide +kernel
theorem dX11_one_70 : decode cX11_one 70 = .ok (.bipush 13, 2) := by decide +kernel
theorem dX11_one_72 : decode cX11_one 72 = .ok (.if_icmp .ge 46, 3) := by decide +kernel
theorem dX11_one_75 : decode cX11_one 75 = .ok (.aload_n 0, 1) := by decide +kernel
theorem dX11_one_76 : decode cX11_one 76 = .ok (.iload_n 2, 1) := by decide +kernel
theorem dX11_one_77 : decode cX11_one 77 = .ok (.iconst 3, 1) := by decide +kernel
theorem dX11_one_78 : decode cX11_one 78 = .ok (.invokevirtual 192, 3) := by decide +kernel
theorem dX11_one_81 : decode cX11_one 81 = .ok (.istore_n 3, 1) := by decide +kernel
theorem dX11_one_82 : decode cX11_one 82 = .ok (.iconst 0, 1) := by decide +kernel
theorem dX11_one_83 : decode cX11_one 83 = .ok (.istore 4, 2) := by decide +kernel
theorem dX11_one_85 : decode cX11_one 85 = .ok (.iload 4, 2) := by decide +kernel
theorem dX11_one_87 : decode cX11_one 87 = .ok (.iload_n 3, 1) := by decide +kernel
theorem dX11_one_88 : decode cX11_one 88 = .ok (.if_icmp .ge 24, 3) := by decide +kernel
theorem dX11_one_91 : decode cX11_one 91 = .ok (.aload_n 0, 1) := by decide +kernel
theorem dX11_one_92 : decode cX11_one 92 = .ok (.iload_n 2, 1) := by decide +kernel
theorem dX11_one_93 : decode cX11_one 93 = .ok (.iconst 4, 1) := by decide +kernel
theorem dX11_one_94 : decode cX11_one 94 = .ok (.invokevirtual 192, 3) := by decide +kernel
theorem dX11_one_97 : decode cX11_one 97 = .ok (.iconst 1, 1) := by decide +kernel
theorem dX11_one_98 : decode cX11_one 98 = .ok (.if_icmp .ne 14, 3) := by decide +kernel
theorem dX11_one_101 : decode cX11_one 101 = .ok (.aload_n 0, 1) := by decide +kernel
theorem dX11_one_102 : decode cX11_one 102 = .ok (.iload_n 2, 1) := by decide +kernel
theorem dX11_one_103 : decode cX11_one 103 = .ok (.invokevirtual 352, 3) := by decide +kernel
theorem dX11_one_106 : decode cX11_one 106 = .ok (.iinc 4 1, 3) := by decide +kernel
theorem dX11_one_109 : decode cX11_one 109 = .ok (.goto (-24), 3) := by decide +kernel
theorem dX11_one_112 : decode cX11_one 112 = .ok (.iinc 2 1, 3) := by decide +kernel
theorem dX11_one_115 : decode cX11_one 115 = .ok (.goto (-46), 3) := by decide +kernel
theorem dX11_one_118 : decode cX11_one 118 = .ok (.iload_n 1, 1) := by decide +kernel
theorem dX11_one_119 : decode cX11_one 119 = .ok (.ireturn, 1) := by decide +kernel
theorem dX11_tick_0 : decode cX11_tick 0 = .ok (.aload_n 0, 1) := by decide +kernel
theorem dX11_tick_1 : decode cX11_tick 1 = .ok (.iconst 0, 1) := by decide +kernel
theorem dX11_tick_2 : decode cX11_tick 2 = .ok (.putfield 3, 3) := by decide +kernel
theorem dX11_tick_5 : decode cX11_tick 5 = .ok (.iload_n 1, 1) := by decide +kernel
theorem dX11_tick_6 : decode cX11_tick 6 = .ok (.i2l, 1) := by decide +kernel
theorem dX11_tick_7 : decode cX11_tick 7 = .ok (.lconst 0, 1) := by decide +kernel
theorem dX11_tick_8 : decode cX11_tick 8 = .ok (.ldc2_w 355, 3) := by decide +kernel
theorem dX11_tick_11 : decode cX11_tick 11 = .ok (.invokestatic 72, 3) := by decide +kernel
theorem dX11_tick_14 : decode cX11_tick 14 = .ok (.ifCond .ne 5, 3) := by decide +kernel
theorem dX11_tick_17 : decode cX11_tick 17 = .ok (.iconst (-1), 1) := by decide +kernel
theorem dX11_tick_18 : decode cX11_tick 18 = .ok (.ireturn, 1) := by decide +kernel
theorem dX11_tick_19 : decode cX11_tick 19 = .ok (.iconst 0, 1) := by decide +kernel
theorem dX11_tick_20 : decode cX11_tick 20 = .ok (.istore_n 2, 1) := by decide +kernel
theorem dX11_tick_21 : decode cX11_tick 21 = .ok (.iconst 0, 1) := by decide +kernel
theorem dX11_tick_22 : decode cX11_tick 22 = .ok (.istore_n 3, 1) := by decide +kernel
theorem dX11_tick_23 : decode cX11_tick 23 = .ok (.iload_n 3, 1) := by decide +kernel
theorem dX11_tick_24 : decode cX11_tick 24 = .ok (.iload_n 1, 1) := by decide +kernel
theorem dX11_tick_25 : decode cX11_tick 25 = .ok (.if_icmp .ge 16, 3) := by decide +kernel
theorem dX11_tick_28 : decode cX11_tick 28 = .ok (.iload_n 2, 1) := by decide +kernel
theorem dX11_tick_29 : decode cX11_tick 29 = .ok (.aload_n 0, 1) := by decide +kernel
theorem dX11_tick_30 : decode cX11_tick 30 = .ok (.invokevirtual 357, 3) := by decide +kernel
theorem dX11_tick_33 : decode cX11_tick 33 = .ok (.iadd, 1) := by decide +kernel
theorem dX11_tick_34 : decode cX11_tick 34 = .ok (.istore_n 2, 1) := by decide +kernel
theorem dX11_tick_35 : decode cX11_tick 35 = .ok (.iinc 3 1, 3) := by decide +kernel
theorem dX11_tick_38 : decode cX11_tick 38 = .ok (.goto (-15), 3) := by decide +kernel
theorem dX11_tick_41 : decode cX11_tick 41 = .ok (.iload_n 2, 1) := by decide +kernel
theorem dX11_tick_42 : decode cX11_tick 42 = .ok (.ireturn, 1) := by decide +kernel
theorem dX11_start_0 : decode cX11_start 0 = .ok (.aload_n 0, 1) := by decide +kernel
theorem dX11_start_1 : decode cX11_start 1 = .ok (.iconst 0, 1) := by decide +kernel
theorem dX11_start_2 : decode cX11_start 2 = .ok (.putfield 3, 3) := by decide +kernel
theorem dX11_start_5 : decode cX11_start 5 = .ok (.aload_n 0, 1) := by decide +kernel
theorem dX11_start_6 : decode cX11_start 6 = .ok (.iload_n 1, 1) := by decide +kernel
theorem dX11_start_7 : decode cX11_start 7 = .ok (.invokevirtual 298, 3) := by decide +kernel
theorem dX11_start_10 : decode cX11_start 10 = .ok (.ireturn, 1) := by decide +kernel
theorem dX11_say_0 : decode cX11_say 0 = .ok (.aload_n 0, 1) := by decide +kernel
theorem dX11_say_1 : decode cX11_say 1 = .ok (.iconst 0, 1) := by decide +kernel
theorem dX11_say_2 : decode cX11_say 2 = .ok (.putfield 3, 3) := by decide +kernel
theorem dX11_say_5 : decode cX11_say 5 = .ok (.aload_n 0, 1) := by decide +kernel
theorem dX11_say_6 : decode cX11_say 6 = .ok (.iload_n 1, 1) := by decide +kernel
theorem dX11_say_7 : decode cX11_say 7 = .ok (.iload_n 2, 1) := by decide +kernel
theorem dX11_say_8 : decode cX11_say 8 = .ok (.iload_n 3, 1) := by decide +kernel
theorem dX11_say_9 : decode cX11_say 9 = .ok (.invokevirtual 321, 3) := by decide +kernel
theorem dX11_say_12 : decode cX11_say 12 = .ok (.ireturn, 1) := by decide +kernel
theorem dX11_walk_0 : decode cX11_walk 0 = .ok (.aload_n 0, 1) := by decide +kernel
theorem dX11_walk_1 : decode cX11_walk 1 = .ok (.iconst 0, 1) := by decide +kernel
theorem dX11_walk_2 : decode cX11_walk 2 = .ok (.putfield 3, 3) := by decide +kernel
theorem dX11_walk_5 : decode cX11_walk 5 = .ok (.aload_n 0, 1) := by decide +kernel
theorem dX11_walk_6 : decode cX11_walk 6 = .ok (.iload_n 1, 1) := by decide +kernel
theorem dX11_walk_7 : decode cX11_walk 7 = .ok (.invokevirtual 284, 3) := by decide +kernel
theorem dX11_walk_10 : decode cX11_walk 10 = .ok (.ifCond .eq 17, 3) := by decide +kernel
theorem dX11_walk_13 : decode cX11_walk 13 = .ok (.iload_n 2, 1) := by decide +kernel
theorem dX11_walk_14 : decode cX11_walk 14 = .ok (.invokestatic 287, 3) := by decide +kernel
theorem dX11_walk_17 : decode cX11_walk 17 = .ok (.ifCond .eq 10, 3) := by decide +kernel
theorem dX11_walk_20 : decode cX11_walk 20 = .ok (.iload_n 3, 1) := by decide +kernel
theorem dX11_walk_21 : decode cX11_walk 21 = .ok (.invokestatic 287, 3) := by decide +kernel
theorem dX11_walk_24 : decode cX11_walk 24 = .ok (.ifCond .ne 5, 3) := by decide +kernel
theorem dX11_walk_27 : decode cX11_walk 27 = .ok (.iconst 0, 1) := by decide +kernel
theorem dX11_walk_28 : decode cX11_walk 28 = .ok (.ireturn, 1) := by decide +kernel
theorem dX11_walk_29 : decode cX11_walk 29 = .ok (.aload_n 0, 1) := by decide +kernel
theorem dX11_walk_30 : decode cX11_walk 30 = .ok (.iload_n 1, 1) := by decide +kernel
theorem dX11_walk_31 : decode cX11_walk 31 = .ok (.iload_n 2, 1) := by decide +kernel
theorem dX11_walk_32 : decode cX11_walk 32 = .ok (.iload_n 3, 1) := by decide +kernel
theorem dX11_walk_33 : decode cX11_walk 33 = .ok (.invokevirtual 318, 3) := by decide +kernel
theorem dX11_walk_36 : decode cX11_walk 36 = .ok (.iconst 1, 1) := by decide +kernel
theorem dX11_walk_37 : decode cX11_walk 37 = .ok (.ireturn, 1) := by decide +kernel
theorem dX11_set_0 : decode cX11_set 0 = .ok (.aload_n 0, 1) := by decide +kernel
theorem dX11_set_1 : decode cX11_set 1 = .ok (.iconst 0, 1) := by decide +kernel
theorem dX11_set_2 : decode cX11_set 2 = .ok (.putfield 3, 3) := by decide +kernel
theorem dX11_set_5 : decode cX11_set 5 = .ok (.iload_n 1, 1) := by decide +kernel
theorem dX11_set_6 : decode cX11_set 6 = .ok (.i2l, 1) := by decide +kernel
theorem dX11_set_7 : decode cX11_set 7 = .ok (.lconst 0, 1) := by decide +kernel
theorem dX11_set_8 : decode cX11_set 8 = .ok (.ldc2_w 245, 3) := by decide +kernel
theorem dX11_set_11 : decode cX11_set 11 = .ok (.invokestatic 72, 3) := by decide +kernel
theorem dX11_set_14 : decode cX11_set 14 = .ok (.ifCond .ne 8, 3) := by decide +kernel
theorem dX11_set_17 : decode cX11_set 17 = .ok (.aload_n 0, 1) := by decide +kernel
theorem dX11_set_18 : decode cX11_set 18 = .ok (.invokevirtual 135, 3) := by decide +kernel
theorem dX11_set_21 : decode cX11_set 21 = .ok (.ireturn, 1) := by decide +kernel
theorem dX11_set_22 : decode cX11_set 22 = .ok (.aload_n 0, 1) := by decide +kernel
theorem dX11_set_23 : decode cX11_set 23 = .ok (.getfield 57, 3) := by decide +kernel
theorem dX11_set_26 : decode cX11_set 26 = .ok (.bipush 6, 2) := by decide +kernel
theorem dX11_set_28 : decode cX11_set 28 = .ok (.iload_n 1, 1) := by decide +kernel
theorem dX11_set_29 : decode cX11_set 29 = .ok (.iadd, 1) := by decide +kernel
theorem dX11_set_30 : decode cX11_set 30 = .ok (.iaload, 1) := by decide +kernel
theorem dX11_set_31 : decode cX11_set 31 = .ok (.istore_n 3, 1) := by decide +kernel
theorem dX11_set_32 : decode cX11_set 32 = .ok (.aload_n 0, 1) := by decide +kernel
theorem dX11_set_33 : decode cX11_set 33 = .ok (.getfield 57, 3) := by decide +kernel
theorem dX11_set_36 : decode cX11_set 36 = .ok (.bipush 6, 2) := by decide +kernel
theorem dX11_set_38 : decode cX11_set 38 = .ok (.iload_n 1, 1) := by decide +kernel
theorem dX11_set_39 : decode cX11_set 39 = .ok (.iadd, 1) := by decide +kernel
theorem dX11_set_40 : decode cX11_set 40 = .ok (.iload_n 2, 1) := by decide +kernel
theorem dX11_set_41 : decode cX11_set 41 = .ok (.iastore, 1) := by decide +kernel
theorem dX11_set_42 : decode cX11_set 42 = .ok (.iload_n 3, 1) := by decide +kernel
theorem dX11_set_43 : decode cX11_set 43 = .ok (.ireturn, 1) := by decide +kernel
theorem dX11_variable_0 : decode cX11_variable 0 = .ok (.aload_n 0, 1) := by decide +kernel
theorem dX11_variable_1 : decode cX11_variable 1 = .ok (.iconst 0, 1) := by decide +kernel
theorem dX11_variable_2 : decode cX11_variable 2 = .ok (.putfield 3, 3) := by decide +kernel
theorem dX11_variable_5 : decode cX11_variable 5 = .ok (.iload_n 1, 1) := by decide +kernel
theorem dX11_variable_6 : decode cX11_variable 6 = .ok (.i2l, 1) := by decide +kernel
theorem dX11_variable_7 : decode cX11_variable 7 = .ok (.lconst 0, 1) := by decide +kernel
theorem dX11_variable_8 : decode cX11_variable 8 = .ok (.ldc2_w 245, 3) := by decide +kernel
theorem dX11_variable_11 : decode cX11_variable 11 = .ok (.invokestatic 72, 3) := by decide +kernel
theorem dX11_variable_14 : decode cX11_variable 14 = .ok (.ifCond .eq 15, 3) := by decide +kernel
theorem dX11_variable_17 : decode cX11_variable 17 = .ok (.aload_n 0, 1) := by decide +kernel
theorem dX11_variable_18 : decode cX11_variable 18 = .ok (.getfield 57, 3) := by decide +kernel
theorem dX11_variable_21 : decode cX11_variable 21 = .ok (.bipush 6, 2) := by decide +kernel
theorem dX11_variable_23 : decode cX11_variable 23 = .ok (.iload_n 1, 1) := by decide +kernel
theorem dX11_variable_24 : decode cX11_variable 24 = .ok (.iadd, 1) := by decide +kernel
theorem dX11_variable_25 : decode cX11_variable 25 = .ok (.iaload, 1) := by decide +kernel
theorem dX11_variable_26 : decode cX11_variable 26 = .ok (.goto 7, 3) := by decide +kernel
theorem dX11_variable_29 : decode cX11_variable 29 = .ok (.aload_n 0, 1) := by decide +kernel
theorem dX11_variable_30 : decode cX11_variable 30 = .ok (.invokevirtual 135, 3) := by decide +kernel
theorem dX11_variable_33 : decode cX11_variable 33 = .ok (.ireturn, 1) := by decide +kernel
theorem dX11_slot_0 : decode cX11_slot 0 = .ok (.aload_n 0, 1) := by decide +kernel
theorem dX11_slot_1 : decode cX11_slot 1 = .ok (.iconst 0, 1) := by decide +kernel
theorem dX11_slot_2 : decode cX11_slot 2 = .ok (.putfield 3, 3) := by decide +kernel
theorem dX11_slot_5 : decode cX11_slot 5 = .ok (.iload_n 1, 1) := by decide +kernel
theorem dX11_slot_6 : decode cX11_slot 6 = .ok (.i2l, 1) := by decide +kernel
theorem dX11_slot_7 : decode cX11_slot 7 = .ok (.lconst 0, 1) := by decide +kernel
theorem dX11_slot_8 : decode cX11_slot 8 = .ok (.ldc2_w 276, 3) := by decide +kernel
theorem dX11_slot_11 : decode cX11_slot 11 = .ok (.invokestatic 72, 3) := by decide +kernel
theorem dX11_slot_14 : decode cX11_slot 14 = .ok (.ifCond .eq 24, 3) := by decide +kernel
theorem dX11_slot_17 : decode cX11_slot 17 = .ok (.iload_n 2, 1) := by decide +kernel
theorem dX11_slot_18 : decode cX11_slot 18 = .ok (.i2l, 1) := by decide +kernel
theorem dX11_slot_19 : decode cX11_slot 19 = .ok (.lconst 0, 1) := by decide +kernel
theorem dX11_slot_20 : decode cX11_slot 20 = .ok (.ldc2_w 360, 3) := by decide +kernel
theorem dX11_slot_23 : decode cX11_slot 23 = .ok (.invokestatic 72, 3) := by decide +kernel
theorem dX11_slot_26 : decode cX11_slot 26 = .ok (.ifCond .eq 12, 3) := by decide +kernel
theorem dX11_slot_29 : decode cX11_slot 29 = .ok (.aload_n 0, 1) := by decide +kernel
theorem dX11_slot_30 : decode cX11_slot 30 = .ok (.iload_n 1, 1) := by decide +kernel
theorem dX11_slot_31 : decode cX11_slot 31 = .ok (.iload_n 2, 1) := by decide +kernel
theorem dX11_slot_32 : decode cX11_slot 32 = .ok (.invokevirtual 158, 3) := by decide +kernel
theorem dX11_slot_35 : decode cX11_slot 35 = .ok (.goto 4, 3) := by decide +kernel
theorem dX11_slot_38 : decode cX11_slot 38 = .ok (.iconst (-1), 1) := by decide +kernel
theorem dX11_slot_39 : decode cX11_slot 39 = .ok (.ireturn, 1) := by decide +kernel
theorem dX11_actor_0 : decode cX11_actor 0 = .ok (.aload_n 0, 1) := by decide +kernel
theorem dX11_actor_1 : decode cX11_actor 1 = .ok (.iconst 0, 1) := by decide +kernel
theorem dX11_actor_2 : decode cX11_actor 2 = .ok (.putfield 3, 3) := by decide +kernel
theorem dX11_actor_5 : decode cX11_actor 5 = .ok (.aload_n 0, 1) := by decide +kernel
theorem dX11_actor_6 : decode cX11_actor 6 = .ok (.iload_n 1, 1) := by decide +kernel
theorem dX11_actor_7 : decode cX11_actor 7 = .ok (.invokevirtual 284, 3) := by decide +kernel
theorem dX11_actor_10 : decode cX11_actor 10 = .ok (.ifCond .eq 15, 3) := by decide +kernel
theorem dX11_actor_13 : decode cX11_actor 13 = .ok (.iload_n 2, 1) := by decide +kernel
theorem dX11_actor_14 : decode cX11_actor 14 = .ok (.i2l, 1) := by decide +kernel
theorem dX11_actor_15 : decode cX11_actor 15 = .ok (.lconst 0, 1) := by decide +kernel
theorem dX11_actor_16 : decode cX11_actor 16 = .ok (.ldc2_w 276, 3) := by decide +kernel
theorem dX11_actor_19 : decode cX11_actor 19 = .ok (.invokestatic 72, 3) := by decide +kernel
theorem dX11_actor_22 : decode cX11_actor 22 = .ok (.ifCond .ne 8, 3) := by decide +kernel
theorem dX11_actor_25 : decode cX11_actor 25 = .ok (.aload_n 0, 1) := by decide +kernel
theorem dX11_actor_26 : decode cX11_actor 26 = .ok (.invokevirtual 135, 3) := by decide +kernel
theorem dX11_actor_29 : decode cX11_actor 29 = .ok (.ireturn, 1) := by decide +kernel
theorem dX11_actor_30 : decode cX11_actor 30 = .ok (.iload_n 2, 1) := by decide +kernel
theorem dX11_actor_31 : decode cX11_actor 31 = .ok (.bipush 7, 2) := by decide +kernel
theorem dX11_actor_33 : decode cX11_actor 33 = .ok (.if_icmp .ne 9, 3) := by decide +kernel
theorem dX11_actor_36 : decode cX11_actor 36 = .ok (.aload_n 0, 1) := by decide +kernel
theorem dX11_actor_37 : decode cX11_actor 37 = .ok (.iload_n 1, 1) := by decide +kernel
theorem dX11_actor_38 : decode cX11_actor 38 = .ok (.invokevirtual 220, 3) := by decide +kernel
theorem dX11_actor_41 : decode cX11_actor 41 = .ok (.ireturn, 1) := by decide +kernel
theorem dX11_actor_42 : decode cX11_actor 42 = .ok (.iload_n 2, 1) := by decide +kernel
theorem dX11_actor_43 : decode cX11_actor 43 = .ok (.iconst 4, 1) := by decide +kernel
theorem dX11_actor_44 : decode cX11_actor 44 = .ok (.if_icmp .le 16, 3) := by decide +kernel
theorem dX11_actor_47 : decode cX11_actor 47 = .ok (.aload_n 0, 1) := by decide +kernel
theorem dX11_actor_48 : decode cX11_actor 48 = .ok (.iload_n 1, 1) := by decide +kernel
theorem dX11_actor_49 : decode cX11_actor 49 = .ok (.iconst 4, 1) := by decide +kernel
theorem dX11_actor_50 : decode cX11_actor 50 = .ok (.invokevirtual 192, 3) := by decide +kernel
theorem dX11_actor_53 : decode cX11_actor 53 = .ok (.ifCond .ne 7, 3) := by decide +kernel
theorem dX11_actor_56 : decode cX11_actor 56 = .ok (.iconst (-1), 1) := by decide +kernel
theorem dX11_actor_57 : decode cX11_actor 57 = .ok (.goto 9, 3) := by decide +kernel
theorem dX11_actor_60 : decode cX11_actor 60 = .ok (.aload_n 0, 1) := by decide +kernel
theorem dX11_actor_61 : decode cX11_actor 61 = .ok (.iload_n 1, 1) := by decide +kernel
theorem dX11_actor_62 : decode cX11_actor 62 = .ok (.iload_n 2, 1) := by decide +kernel
theorem dX11_actor_63 : decode cX11_actor 63 = .ok (.invokevirtual 192, 3) := by decide +kernel
theorem dX11_actor_66 : decode cX11_actor 66 = .ok (.ireturn, 1) := by decide +kernel
theorem dX11_object_0 : decode cX11_object 0 = .ok (.aload_n 0, 1) := by decide +kernel
theorem dX11_object_1 : decode cX11_object 1 = .ok (.iconst 0, 1) := by decide +kernel
theorem dX11_object_2 : decode cX11_object 2 = .ok (.putfield 3, 3) := by decide +kernel
theorem dX11_object_5 : decode cX11_object 5 = .ok (.aload_n 0, 1) := by decide +kernel
theorem dX11_object_6 : decode cX11_object 6 = .ok (.iload_n 1, 1) := by decide +kernel
theorem dX11_object_7 : decode cX11_object 7 = .ok (.invokevirtual 292, 3) := by decide +kernel
theorem dX11_object_10 : decode cX11_object 10 = .ok (.ifCond .eq 15, 3) := by decide +kernel
theorem dX11_object_13 : decode cX11_object 13 = .ok (.iload_n 2, 1) := by decide +kernel
theorem dX11_object_14 : decode cX11_object 14 = .ok (.i2l, 1) := by decide +kernel
theorem dX11_object_15 : decode cX11_object 15 = .ok (.lconst 0, 1) := by decide +kernel
theorem dX11_object_16 : decode cX11_object 16 = .ok (.ldc2_w 362, 3) := by decide +kernel
theorem dX11_object_19 : decode cX11_object 19 = .ok (.invokestatic 72, 3) := by decide +kernel
theorem dX11_object_22 : decode cX11_object 22 = .ok (.ifCond .ne 8, 3) := by decide +kernel
theorem dX11_object_25 : decode cX11_object 25 = .ok (.aload_n 0, 1) := by decide +kernel
theorem dX11_object_26 : decode cX11_object 26 = .ok (.invokevirtual 135, 3) := by decide +kernel
theorem dX11_object_29 : decode cX11_object 29 = .ok (.ireturn, 1) := by decide +kernel
theorem dX11_object_30 : decode cX11_object 30 = .ok (.iload_n 2, 1) := by decide +kernel
theorem dX11_object_31 : decode cX11_object 31 = .ok (.iconst 3, 1) := by decide +kernel
theorem dX11_object_32 : decode cX11_object 32 = .ok (.if_icmp .ge 16, 3) := by decide +kernel
theorem dX11_object_35 : decode cX11_object 35 = .ok (.aload_n 0, 1) := by decide +kernel
theorem dX11_object_36 : decode cX11_object 36 = .ok (.getfield 39, 3) := by decide +kernel
theorem dX11_object_39 : decode cX11_object 39 = .ok (.iconst 3, 1) := by decide +kernel
theorem dX11_object_40 : decode cX11_object 40 = .ok (.iload_n 1, 1) := by decide +kernel
theorem dX11_object_41 : decode cX11_object 41 = .ok (.imul, 1) := by decide +kernel
theorem dX11_object_42 : decode cX11_object 42 = .ok (.iload_n 2, 1) := by decide +kernel
theorem dX11_object_43 : decode cX11_object 43 = .ok (.iadd, 1) := by decide +kernel
theorem dX11_object_44 : decode cX11_object 44 = .ok (.iaload, 1) := by decide +kernel
theorem dX11_object_45 : decode cX11_object 45 = .ok (.goto 45, 3) := by decide +kernel
theorem dX11_object_48 : decode cX11_object 48 = .ok (.iload_n 2, 1) := by decide +kernel
theorem dX11_object_49 : decode cX11_object 49 = .ok (.iconst 3, 1) := by decide +kernel
theorem dX11_object_50 : decode cX11_object 50 = .ok (.if_icmp .ne 16, 3) := by decide +kernel
theorem dX11_object_53 : decode cX11_object 53 = .ok (.aload_n 0, 1) := by decide +kernel
theorem dX11_object_54 : decode cX11_object 54 = .ok (.getfield 57, 3) := by decide +kernel
theorem dX11_object_57 : decode cX11_object 57 = .ok (.sipush 323, 3) := by decide +kernel
theorem dX11_object_60 : decode cX11_object 60 = .ok (.iload_n 1, 1) := by decide +kernel
theorem dX11_object_61 : decode cX11_object 61 = .ok (.iadd, 1) := by decide +kernel
theorem dX11_object_62 : decode cX11_object 62 = .ok (.iaload, 1) := by decide +kernel
theorem dX11_object_63 : decode cX11_object 63 = .ok (.goto 27, 3) := by decide +kernel
theorem dX11_object_66 : decode cX11_object 66 = .ok (.iload_n 2, 1) := by decide +kernel
theorem dX11_object_67 : decode cX11_object 67 = .ok (.iconst 4, 1) := by decide +kernel
theorem dX11_object_68 : decode cX11_object 68 = .ok (.if_icmp .ne 16, 3) := by decide +kernel
theorem dX11_object_71 : decode cX11_object 71 = .ok (.aload_n 0, 1) := by decide +kernel
theorem dX11_object_72 : decode cX11_object 72 = .ok (.getfield 57, 3) := by decide +kernel
theorem dX11_object_75 : decode cX11_object 75 = .ok (.sipush 384, 3) := by decide +kernel
theorem dX11_object_78 : decode cX11_object 78 = .ok (.iload_n 1, 1) := by decide +kernel
theorem dX11_object_79 : decode cX11_object 79 = .ok (.iadd, 1) := by decide +kernel
theorem dX11_object_80 : decode cX11_object 80 = .ok (.iaload, 1) := by decide +kernel
theorem dX11_object_81 : decode cX11_object 81 = .ok (.goto 9, 3) := by decide +kernel
theorem dX11_object_84 : decode cX11_object 84 = .ok (.aload_n 0, 1) := by decide +kernel
theorem dX11_object_85 : decode cX11_object 85 = .ok (.getfield 45, 3) := by decide +kernel
theorem dX11_object_88 : decode cX11_object 88 = .ok (.iload_n 1, 1) := by decide +kernel
theorem dX11_object_89 : decode cX11_object 89 = .ok (.iaload, 1) := by decide +kernel
theorem dX11_object_90 : decode cX11_object 90 = .ok (.ireturn, 1) := by decide +kernel
theorem dX11_verb_0 : decode cX11_verb 0 = .ok (.aload_n 0, 1) := by decide +kernel
theorem dX11_verb_1 : decode cX11_verb 1 = .ok (.iconst 0, 1) := by decide +kernel
theorem dX11_verb_2 : decode cX11_verb 2 = .ok (.putfield 3, 3) := by decide +kernel
theorem dX11_verb_5 : decode cX11_verb 5 = .ok (.aload_n 0, 1) := by decide +kernel
theorem dX11_verb_6 : decode cX11_verb 6 = .ok (.iload_n 1, 1) := by decide +kernel
theorem dX11_verb_7 : decode cX11_verb 7 = .ok (.invokevirtual 292, 3) := by decide +kernel
theorem dX11_verb_10 : decode cX11_verb 10 = .ok (.ifCond .eq 12, 3) := by decide +kernel
theorem dX11_verb_13 : decode cX11_verb 13 = .ok (.aload_n 0, 1) := by decide +kernel
theorem dX11_verb_14 : decode cX11_verb 14 = .ok (.iload_n 1, 1) := by decide +kernel
theorem dX11_verb_15 : decode cX11_verb 15 = .ok (.iload_n 2, 1) := by decide +kernel
theorem dX11_verb_16 : decode cX11_verb 16 = .ok (.invokevirtual 340, 3) := by decide +kernel
theorem dX11_verb_19 : decode cX11_verb 19 = .ok (.goto 4, 3) := by decide +kernel
theorem dX11_verb_22 : decode cX11_verb 22 = .ok (.iconst 0, 1) := by decide +kernel
theorem dX11_verb_23 : decode cX11_verb 23 = .ok (.ireturn, 1) := by decide +kernel
theorem dX11_box_0 : decode cX11_box 0 = .ok (.aload_n 0, 1) := by decide +kernel
theorem dX11_box_1 : decode cX11_box 1 = .ok (.iconst 0, 1) := by decide +kernel
theorem dX11_box_2 : decode cX11_box 2 = .ok (.putfield 3, 3) := by decide +kernel
theorem dX11_box_5 : decode cX11_box 5 = .ok (.aload_n 0, 1) := by decide +kernel
theorem dX11_box_6 : decode cX11_box 6 = .ok (.iload_n 1, 1) := by decide +kernel
theorem dX11_box_7 : decode cX11_box 7 = .ok (.iload_n 2, 1) := by decide +kernel
theorem dX11_box_8 : decode cX11_box 8 = .ok (.invokevirtual 295, 3) := by decide +kernel
theorem dX11_box_11 : decode cX11_box 11 = .ok (.ifCond .eq 15, 3) := by decide +kernel
theorem dX11_box_14 : decode cX11_box 14 = .ok (.iload_n 3, 1) := by decide +kernel
theorem dX11_box_15 : decode cX11_box 15 = .ok (.i2l, 1) := by decide +kernel
theorem dX11_box_16 : decode cX11_box 16 = .ok (.lconst 0, 1) := by decide +kernel
theorem dX11_box_17 : decode cX11_box 17 = .ok (.ldc2_w 364, 3) := by decide +kernel
theorem dX11_box_20 : decode cX11_box 20 = .ok (.invokestatic 72, 3) := by decide +kernel
theorem dX11_box_23 : decode cX11_box 23 = .ok (.ifCond .ne 5, 3) := by decide +kernel
theorem dX11_box_26 : decode cX11_box 26 = .ok (.iconst (-1), 1) := by decide +kernel
theorem dX11_box_27 : decode cX11_box 27 = .ok (.ireturn, 1) := by decide +kernel
theorem dX11_box_28 : decode cX11_box 28 = .ok (.iload_n 3, 1) := by decide +kernel
theorem dX11_box_29 : decode cX11_box 29 = .ok (.iconst 4, 1) := by decide +kernel
theorem dX11_box_30 : decode cX11_box 30 = .ok (.if_icmp .ne 21, 3) := by decide +kernel
theorem dX11_box_33 : decode cX11_box 33 = .ok (.aload_n 0, 1) := by decide +kernel
theorem dX11_box_34 : decode cX11_box 34 = .ok (.getfield 57, 3) := by decide +kernel
theorem dX11_box_37 : decode cX11_box 37 = .ok (.sipush 445, 3) := by decide +kernel
theorem dX11_box_40 : decode cX11_box 40 = .ok (.iload_n 1, 1) := by decide +kernel
theorem dX11_box_41 : decode cX11_box 41 = .ok (.bipush 16, 2) := by decide +kernel
theorem dX11_box_43 : decode cX11_box 43 = .ok (.imul, 1) := by decide +kernel
theorem dX11_box_44 : decode cX11_box 44 = .ok (.iadd, 1) := by decide +kernel
theorem dX11_box_45 : decode cX11_box 45 = .ok (.iload_n 2, 1) := by decide +kernel
theorem dX11_box_46 : decode cX11_box 46 = .ok (.iadd, 1) := by decide +kernel
theorem dX11_box_47 : decode cX11_box 47 = .ok (.iaload, 1) := by decide +kernel
theorem dX11_box_48 : decode cX11_box 48 = .ok (.goto 10, 3) := by decide +kernel
theorem dX11_box_51 : decode cX11_box 51 = .ok (.aload_n 0, 1) := by decide +kernel
theorem dX11_box_52 : decode cX11_box 52 = .ok (.iload_n 1, 1) := by decide +kernel
theorem dX11_box_53 : decode cX11_box 53 = .ok (.iload_n 2, 1) := by decide +kernel
theorem dX11_box_54 : decode cX11_box 54 = .ok (.iload_n 3, 1) := by decide +kernel
theorem dX11_box_55 : decode cX11_box 55 = .ok (.invokevirtual 168, 3) := by decide +kernel
theorem dX11_box_58 : decode cX11_box 58 = .ok (.ireturn, 1) := by decide +kernel
theorem dX11_neighbours_0 : decode cX11_neighbours 0 = .ok (.aload_n 0, 1) := by decide +kernel
theorem dX11_neighbours_1 : decode cX11_neighbours 1 = .ok (.iconst 0, 1) := by decide +kernel
theorem dX11_neighbours_2 : decode cX11_neighbours 2 = .ok (.putfield 3, 3) := by decide +kernel
theorem dX11_neighbours_5 : decode cX11_neighbours 5 = .ok (.aload_n 0, 1) := by decide +kernel
theorem dX11_neighbours_6 : decode cX11_neighbours 6 = .ok (.iload_n 1, 1) := by decide +kernel
theorem dX11_neighbours_7 : decode cX11_neighbours 7 = .ok (.iload_n 2, 1) := by decide +kernel
theorem dX11_neighbours_8 : decode cX11_neighbours 8 = .ok (.invokevirtual 295, 3) := by decide +kernel
theorem dX11_neighbours_11 : decode cX11_neighbours 11 = .ok (.ifCond .eq 12, 3) := by decide +kernel
theorem dX11_neighbours_14 : decode cX11_neighbours 14 = .ok (.aload_n 0, 1) := by decide +kernel
theorem dX11_neighbours_15 : decode cX11_neighbours 15 = .ok (.iload_n 1, 1) := by decide +kernel
theorem dX11_neighbours_16 : decode cX11_neighbours 16 = .ok (.iload_n 3, 1) := by decide +kernel
theorem dX11_neighbours_17 : decode cX11_neighbours 17 = .ok (.invokevirtual 295, 3) := by decide +kernel
theorem dX11_neighbours_20 : decode cX11_neighbours 20 = .ok (.ifCond .ne 7, 3) := by decide +kernel
theorem dX11_neighbours_23 : decode cX11_neighbours 23 = .ok (.iconst (-1), 1) := by decide +kernel
theorem dX11_neighbours_24 : decode cX11_neighbours 24 = .ok (.goto 18, 3) := by decide +kernel
theorem dX11_neighbours_27 : decode cX11_neighbours 27 = .ok (.aload_n 0, 1) := by decide +kernel
theorem dX11_neighbours_28 : decode cX11_neighbours 28 = .ok (.iload_n 1, 1) := by decide +kernel
theorem dX11_neighbours_29 : decode cX11_neighbours 29 = .ok (.iload_n 2, 1) := by decide +kernel
theorem dX11_neighbours_30 : decode cX11_neighbours 30 = .ok (.iload_n 3, 1) := by decide +kernel
theorem dX11_neighbours_31 : decode cX11_neighbours 31 = .ok (.invokevirtual 198, 3) := by decide +kernel
theorem dX11_neighbours_34 : decode cX11_neighbours 34 = .ok (.ifCond .eq 7, 3) := by decide +kernel
theorem dX11_neighbours_37 : decode cX11_neighbours 37 = .ok (.iconst 1, 1) := by decide +kernel
theorem dX11_neighbours_38 : decode cX11_neighbours 38 = .ok (.goto 4, 3) := by decide +kernel
theorem dX11_neighbours_41 : decode cX11_neighbours 41 = .ok (.iconst 0, 1) := by decide +kernel
theorem dX11_neighbours_42 : decode cX11_neighbours 42 = .ok (.ireturn, 1) := by decide +kernel
theorem dX11_way_0 : decode cX11_way 0 = .ok (.aload_n 0, 1) := by decide +kernel
theorem dX11_way_1 : decode cX11_way 1 = .ok (.iconst 0, 1) := by decide +kernel
theorem dX11_way_2 : decode cX11_way 2 = .ok (.putfield 3, 3) := by decide +kernel
theorem dX11_way_5 : decode cX11_way 5 = .ok (.aload_n 0, 1) := by decide +kernel
theorem dX11_way_6 : decode cX11_way 6 = .ok (.iload_n 1, 1) := by decide +kernel
theorem dX11_way_7 : decode cX11_way 7 = .ok (.iload_n 2, 1) := by decide +kernel
theorem dX11_way_8 : decode cX11_way 8 = .ok (.invokevirtual 295, 3) := by decide +kernel
theorem dX11_way_11 : decode cX11_way 11 = .ok (.ifCond .eq 30, 3) := by decide +kernel
theorem dX11_way_14 : decode cX11_way 14 = .ok (.aload_n 0, 1) := by decide +kernel
theorem dX11_way_15 : decode cX11_way 15 = .ok (.iload_n 1, 1) := by decide +kernel
theorem dX11_way_16 : decode cX11_way 16 = .ok (.iload_n 3, 1) := by decide +kernel
theorem dX11_way_17 : decode cX11_way 17 = .ok (.invokevirtual 295, 3) := by decide +kernel
theorem dX11_way_20 : decode cX11_way 20 = .ok (.ifCond .eq 21, 3) := by decide +kernel
theorem dX11_way_23 : decode cX11_way 23 = .ok (.aload_n 0, 1) := by decide +kernel
theorem dX11_way_24 : decode cX11_way 24 = .ok (.iload_n 1, 1) := by decide +kernel
theorem dX11_way_25 : decode cX11_way 25 = .ok (.iload_n 2, 1) := by decide +kernel
theorem dX11_way_26 : decode cX11_way 26 = .ok (.invokevirtual 184, 3) := by decide +kernel
theorem dX11_way_29 : decode cX11_way 29 = .ok (.ifCond .eq 12, 3) := by decide +kernel
theorem dX11_way_32 : decode cX11_way 32 = .ok (.aload_n 0, 1) := by decide +kernel
theorem dX11_way_33 : decode cX11_way 33 = .ok (.iload_n 1, 1) := by decide +kernel
theorem dX11_way_34 : decode cX11_way 34 = .ok (.iload_n 3, 1) := by decide +kernel
theorem dX11_way_35 : decode cX11_way 35 = .ok (.invokevirtual 184, 3) := by decide +kernel
theorem dX11_way_38 : decode cX11_way 38 = .ok (.ifCond .ne 5, 3) := by decide +kernel
theorem dX11_way_41 : decode cX11_way 41 = .ok (.iconst (-1), 1) := by decide +kernel
theorem dX11_way_42 : decode cX11_way 42 = .ok (.ireturn, 1) := by decide +kernel
theorem dX11_way_43 : decode cX11_way 43 = .ok (.aload_n 0, 1) := by decide +kernel
theorem dX11_way_44 : decode cX11_way 44 = .ok (.iload_n 1, 1) := by decide +kernel
theorem dX11_way_45 : decode cX11_way 45 = .ok (.iload_n 2, 1) := by decide +kernel
theorem dX11_way_46 : decode cX11_way 46 = .ok (.invokevirtual 202, 3) := by decide +kernel
theorem dX11_way_49 : decode cX11_way 49 = .ok (.aload_n 0, 1) := by decide +kernel
theorem dX11_way_50 : decode cX11_way 50 = .ok (.getfield 63, 3) := by decide +kernel
theorem dX11_way_53 : decode cX11_way 53 = .ok (.iload_n 3, 1) := by decide +kernel
theorem dX11_way_54 : decode cX11_way 54 = .ok (.iaload, 1) := by decide +kernel
theorem dX11_way_55 : decode cX11_way 55 = .ok (.ireturn, 1) := by decide +kernel
theorem dX11_goal_0 : decode cX11_goal 0 = .ok (.aload_n 0, 1) := by decide +kernel
theorem dX11_goal_1 : decode cX11_goal 1 = .ok (.iconst 0, 1) := by decide +kernel
theorem dX11_goal_2 : decode cX11_goal 2 = .ok (.putfield 3, 3) := by decide +kernel
theorem dX11_goal_5 : decode cX11_goal 5 = .ok (.aload_n 0, 1) := by decide +kernel
theorem dX11_goal_6 : decode cX11_goal 6 = .ok (.iload_n 1, 1) := by decide +kernel
theorem dX11_goal_7 : decode cX11_goal 7 = .ok (.invokevirtual 284, 3) := by decide +kernel
theorem dX11_goal_10 : decode cX11_goal 10 = .ok (.ifCond .eq 25, 3) := by decide +kernel
theorem dX11_goal_13 : decode cX11_goal 13 = .ok (.iload_n 2, 1) := by decide +kernel
theorem dX11_goal_14 : decode cX11_goal 14 = .ok (.invokestatic 287, 3) := by decide +kernel
theorem dX11_goal_17 : decode cX11_goal 17 = .ok (.ifCond .eq 18, 3) := by decide +kernel
theorem dX11_goal_20 : decode cX11_goal 20 = .ok (.iload_n 3, 1) := by decide +kernel
theorem dX11_goal_21 : decode cX11_goal 21 = .ok (.invokestatic 287, 3) := by decide +kernel
theorem dX11_goal_24 : decode cX11_goal 24 = .ok (.ifCond .eq 11, 3) := by decide +kernel
theorem dX11_goal_27 : decode cX11_goal 27 = .ok (.aload_n 0, 1) := by decide +kernel
theorem dX11_goal_28 : decode cX11_goal 28 = .ok (.iload_n 1, 1) := by decide +kernel
theorem dX11_goal_29 : decode cX11_goal 29 = .ok (.invokevirtual 220, 3) := by decide +kernel
theorem dX11_goal_32 : decode cX11_goal 32 = .ok (.ifCond .ge 5, 3) := by decide +kernel
theorem dX11_goal_35 : decode cX11_goal 35 = .ok (.iconst (-1), 1) := by decide +kernel
theorem dX11_goal_36 : decode cX11_goal 36 = .ok (.ireturn, 1) := by decide +kernel
theorem dX11_goal_37 : decode cX11_goal 37 = .ok (.aload_n 0, 1) := by decide +kernel
theorem dX11_goal_38 : decode cX11_goal 38 = .ok (.aload_n 0, 1) := by decide +kernel
theorem dX11_goal_39 : decode cX11_goal 39 = .ok (.iload_n 1, 1) := by decide +kernel
theorem dX11_goal_40 : decode cX11_goal 40 = .ok (.iconst 0, 1) := by decide +kernel
theorem dX11_goal_41 : decode cX11_goal 41 = .ok (.invokevirtual 192, 3) := by decide +kernel
theorem dX11_goal_44 : decode cX11_goal 44 = .ok (.aload_n 0, 1) := by decide +kernel
theorem dX11_goal_45 : decode cX11_goal 45 = .ok (.iload_n 1, 1) := by decide +kernel
theorem dX11_goal_46 : decode cX11_goal 46 = .ok (.invokevirtual 220, 3) := by decide +kernel
theorem dX11_goal_49 : decode cX11_goal 49 = .ok (.iload_n 2, 1) := by decide +kernel
theorem dX11_goal_50 : decode cX11_goal 50 = .ok (.iload_n 3, 1) := by decide +kernel
theorem dX11_goal_51 : decode cX11_goal 51 = .ok (.invokevirtual 226, 3) := by decide +kernel
theorem dX11_goal_54 : decode cX11_goal 54 = .ok (.sipush 256, 3) := by decide +kernel
theorem dX11_goal_57 : decode cX11_goal 57 = .ok (.aload_n 0, 1) := by decide +kernel
theorem dX11_goal_58 : decode cX11_goal 58 = .ok (.getfield 214, 3) := by decide +kernel
theorem dX11_goal_61 : decode cX11_goal 61 = .ok (.imul, 1) := by decide +kernel
theorem dX11_goal_62 : decode cX11_goal 62 = .ok (.aload_n 0, 1) := by decide +kernel
theorem dX11_goal_63 : decode cX11_goal 63 = .ok (.getfield 217, 3) := by decide +kernel
theorem dX11_goal_66 : decode cX11_goal 66 = .ok (.iadd, 1) := by decide +kernel
theorem dX11_goal_67 : decode cX11_goal 67 = .ok (.ireturn, 1) := by decide +kernel
theorem dX11_note_0 : decode cX11_note 0 = .ok (.aload_n 0, 1) := by decide +kernel
theorem dX11_note_1 : decode cX11_note 1 = .ok (.iconst 0, 1) := by decide +kernel
theorem dX11_note_2 : decode cX11_note 2 = .ok (.putfield 3, 3) := by decide +kernel
theorem dX11_note_5 : decode cX11_note 5 = .ok (.iload_n 1, 1) := by decide +kernel
theorem dX11_note_6 : decode cX11_note 6 = .ok (.i2l, 1) := by decide +kernel
theorem dX11_note_7 : decode cX11_note 7 = .ok (.lconst 0, 1) := by decide +kernel
theorem dX11_note_8 : decode cX11_note 8 = .ok (.aload_n 0, 1) := by decide +kernel
theorem dX11_note_9 : decode cX11_note 9 = .ok (.getfield 57, 3) := by decide +kernel
theorem dX11_note_12 : decode cX11_note 12 = .ok (.iconst 2, 1) := by decide +kernel
theorem dX11_note_13 : decode cX11_note 13 = .ok (.iaload, 1) := by decide +kernel
theorem dX11_note_14 : decode cX11_note 14 = .ok (.bipush 64, 2) := by decide +kernel
theorem dX11_note_16 : decode cX11_note 16 = .ok (.invokestatic 177, 3) := by decide +kernel
theorem dX11_note_19 : decode cX11_note 19 = .ok (.iconst 1, 1) := by decide +kernel
theorem dX11_note_20 : decode cX11_note 20 = .ok (.isub, 1) := by decide +kernel
theorem dX11_note_21 : decode cX11_note 21 = .ok (.i2l, 1) := by decide +kernel
theorem dX11_note_22 : decode cX11_note 22 = .ok (.invokestatic 72, 3) := by decide +kernel
theorem dX11_note_25 : decode cX11_note 25 = .ok (.ifCond .eq 28, 3) := by decide +kernel
theorem dX11_note_28 : decode cX11_note 28 = .ok (.aload_n 0, 1) := by decide +kernel
theorem dX11_note_29 : decode cX11_note 29 = .ok (.getfield 57, 3) := by decide +kernel
theorem dX11_note_32 : decode cX11_note 32 = .ok (.sipush 168, 3) := by decide +kernel
theorem dX11_note_35 : decode cX11_note 35 = .ok (.aload_n 0, 1) := by decide +kernel
theorem dX11_note_36 : decode cX11_note 36 = .ok (.getfield 57, 3) := by decide +kernel
theorem dX11_note_39 : decode cX11_note 39 = .ok (.iconst 2, 1) := by decide +kernel
theorem dX11_note_40 : decode cX11_note 40 = .ok (.iaload, 1) := by decide +kernel
theorem dX11_note_41 : decode cX11_note 41 = .ok (.iconst 1, 1) := by decide +kernel
theorem dX11_note_42 : decode cX11_note 42 = .ok (.isub, 1) := by decide +kernel
theorem dX11_note_43 : decode cX11_note 43 = .ok (.iload_n 1, 1) := by decide +kernel
theorem dX11_note_44 : decode cX11_note 44 = .ok (.isub, 1) := by decide +kernel
theorem dX11_note_45 : decode cX11_note 45 = .ok (.bipush 64, 2) := by decide +kernel
theorem dX11_note_47 : decode cX11_note 47 = .ok (.irem, 1) := by decide +kernel
theorem dX11_note_48 : decode cX11_note 48 = .ok (.iadd, 1) := by decide +kernel
theorem dX11_note_49 : decode cX11_note 49 = .ok (.iaload, 1) := by decide +kernel
theorem dX11_note_50 : decode cX11_note 50 = .ok (.goto 7, 3) := by decide +kernel
theorem dX11_note_53 : decode cX11_note 53 = .ok (.aload_n 0, 1) := by decide +kernel
theorem dX11_note_54 : decode cX11_note 54 = .ok (.invokevirtual 135, 3) := by decide +kernel
theorem dX11_note_57 : decode cX11_note 57 = .ok (.ireturn, 1) := by decide +kernel
theorem dX11_sentence_0 : decode cX11_sentence 0 = .ok (.aload_n 0, 1) := by decide +kernel
theorem dX11_sentence_1 : decode cX11_sentence 1 = .ok (.iconst 0, 1) := by decide +kernel
theorem dX11_sentence_2 : decode cX11_sentence 2 = .ok (.putfield 3, 3) := by decide +kernel
theorem dX11_sentence_5 : decode cX11_sentence 5 = .ok (.iload_n 1, 1) := by decide +kernel
theorem dX11_sentence_6 : decode cX11_sentence 6 = .ok (.i2l, 1) := by decide +kernel
theorem dX11_sentence_7 : decode cX11_sentence 7 = .ok (.lconst 0, 1) := by decide +kernel
theorem dX11_sentence_8 : decode cX11_sentence 8 = .ok (.aload_n 0, 1) := by decide +kernel
theorem dX11_sentence_9 : decode cX11_sentence 9 = .ok (.getfield 57, 3) := by decide +kernel
theorem dX11_sentence_12 : decode cX11_sentence 12 = .ok (.iconst 5, 1) := by decide +kernel
theorem dX11_sentence_13 : decode cX11_sentence 13 = .ok (.iaload, 1) := by decide +kernel
theorem dX11_sentence_14 : decode cX11_sentence 14 = .ok (.iconst 1, 1) := by decide +kernel
theorem dX11_sentence_15 : decode cX11_sentence 15 = .ok (.isub, 1) := by decide +kernel
theorem dX11_sentence_16 : decode cX11_sentence 16 = .ok (.i2l, 1) := by decide +kernel
theorem dX11_sentence_17 : decode cX11_sentence 17 = .ok (.invokestatic 72, 3) := by decide +kernel
theorem dX11_sentence_20 : decode cX11_sentence 20 = .ok (.ifCond .eq 32, 3) := by decide +kernel
theorem dX11_sentence_23 : decode cX11_sentence 23 = .ok (.iload_n 2, 1) := by decide +kernel
theorem dX11_sentence_24 : decode cX11_sentence 24 = .ok (.i2l, 1) := by decide +kernel
theorem dX11_sentence_25 : decode cX11_sentence 25 = .ok (.lconst 0, 1) := by decide +kernel
theorem dX11_sentence_26 : decode cX11_sentence 26 = .ok (.ldc2_w 255, 3) := by decide +kernel
theorem dX11_sentence_29 : decode cX11_sentence 29 = .ok (.invokestatic 72, 3) := by decide +kernel
theorem dX11_sentence_32 : decode cX11_sentence 32 = .ok (.ifCond .eq 20, 3) := by decide +kernel
theorem dX11_sentence_35 : decode cX11_sentence 35 = .ok (.aload_n 0, 1) := by decide +kernel
theorem dX11_sentence_36 : decode cX11_sentence 36 = .ok (.getfield 57, 3) := by decide +kernel
theorem dX11_sentence_39 : decode cX11_sentence 39 = .ok (.sipush 150, 3) := by decide +kernel
theorem dX11_sentence_42 : decode cX11_sentence 42 = .ok (.iconst 3, 1) := by decide +kernel
theorem dX11_sentence_43 : decode cX11_sentence 43 = .ok (.iload_n 1, 1) := by decide +kernel
theorem dX11_sentence_44 : decode cX11_sentence 44 = .ok (.imul, 1) := by decide +kernel
theorem dX11_sentence_45 : decode cX11_sentence 45 = .ok (.iadd, 1) := by decide +kernel
theorem dX11_sentence_46 : decode cX11_sentence 46 = .ok (.iload_n 2, 1) := by decide +kernel
theorem dX11_sentence_47 : decode cX11_sentence 47 = .ok (.iadd, 1) := by decide +kernel
theorem dX11_sentence_48 : decode cX11_sentence 48 = .ok (.iaload, 1) := by decide +kernel
theorem dX11_sentence_49 : decode cX11_sentence 49 = .ok (.goto 7, 3) := by decide +kernel
theorem dX11_sentence_52 : decode cX11_sentence 52 = .ok (.aload_n 0, 1) := by decide +kernel
theorem dX11_sentence_53 : decode cX11_sentence 53 = .ok (.invokevirtual 135, 3) := by decide +kernel
theorem dX11_sentence_56 : decode cX11_sentence 56 = .ok (.ireturn, 1) := by decide +kernel
theorem dX11_count_0 : decode cX11_count 0 = .ok (.aload_n 0, 1) := by decide +kernel
theorem dX11_count_1 : decode cX11_count 1 = .ok (.iconst 0, 1) := by decide +kernel
theorem dX11_count_2 : decode cX11_count 2 = .ok (.putfield 3, 3) := by decide +kernel
theorem dX11_count_5 : decode cX11_count 5 = .ok (.iconst 0, 1) := by decide +kernel
theorem dX11_count_6 : decode cX11_count 6 = .ok (.istore_n 2, 1) := by decide +kernel
theorem dX11_count_7 : decode cX11_count 7 = .ok (.iconst 0, 1) := by decide +kernel
theorem dX11_count_8 : decode cX11_count 8 = .ok (.istore_n 3, 1) := by decide +kernel
theorem dX11_count_9 : decode cX11_count 9 = .ok (.iload_n 3, 1) := by decide +kernel
theorem dX11_count_10 : decode cX11_count 10 = .ok (.bipush 8, 2) := by decide +kernel
theorem dX11_count_12 : decode cX11_count 12 = .ok (.if_icmp .ge 26, 3) := by decide +kernel
theorem dX11_count_15 : decode cX11_count 15 = .ok (.iload_n 2, 1) := by decide +kernel
theorem dX11_count_16 : decode cX11_count 16 = .ok (.aload_n 0, 1) := by decide +kernel
theorem dX11_count_17 : decode cX11_count 17 = .ok (.iload_n 3, 1) := by decide +kernel
theorem dX11_count_18 : decode cX11_count 18 = .ok (.iconst 0, 1) := by decide +kernel
theorem dX11_count_19 : decode cX11_count 19 = .ok (.invokevirtual 158, 3) := by decide +kernel
theorem dX11_count_22 : decode cX11_count 22 = .ok (.ifCond .eq 7, 3) := by decide +kernel
theorem dX11_count_25 : decode cX11_count 25 = .ok (.iconst 1, 1) := by decide +kernel
theorem dX11_count_26 : decode cX11_count 26 = .ok (.goto 4, 3) := by decide +kernel
theorem dX11_count_29 : decode cX11_count 29 = .ok (.iconst 0, 1) := by decide +kernel
theorem dX11_count_30 : decode cX11_count 30 = .ok (.iadd, 1) := by decide +kernel
theorem dX11_count_31 : decode cX11_count 31 = .ok (.istore_n 2, 1) := by decide +kernel
theorem dX11_count_32 : decode cX11_count 32 = .ok (.iinc 3 1, 3) := by decide +kernel
theorem dX11_count_35 : decode cX11_count 35 = .ok (.goto (-26), 3) := by decide +kernel
theorem dX11_count_38 : decode cX11_count 38 = .ok (.iload_n 1, 1) := by decide +kernel
theorem dX11_count_39 : decode cX11_count 39 = .ok (.tableswitch 130 0 11 #[61, 68, 70, 77, 84, 91, 98, 105, 110, 115, 120, 125], 61) := by decide +kernel
theorem dX11_count_100 : decode cX11_count 100 = .ok (.aload_n 0, 1) := by decide +kernel
theorem dX11_count_101 : decode cX11_count 101 = .ok (.getfield 57, 3) := by decide +kernel
theorem dX11_count_104 : decode cX11_count 104 = .ok (.iconst 0, 1) := by decide +kernel
theorem dX11_count_105 : decode cX11_count 105 = .ok (.iaload, 1) := by decide +kernel
theorem dX11_count_106 : decode cX11_count 106 = .ok (.ireturn, 1) := by decide +kernel
theorem dX11_count_107 : decode cX11_count 107 = .ok (.iload_n 2, 1) := by decide +kernel
theorem dX11_count_108 : decode cX11_count 108 = .ok (.ireturn, 1) := by decide +kernel
theorem dX11_count_109 : decode cX11_count 109 = .ok (.aload_n 0, 1) := by decide +kernel
theorem dX11_count_110 : decode cX11_count 110 = .ok (.getfield 57, 3) := by decide +kernel
theorem dX11_count_113 : decode cX11_count 113 = .ok (.iconst 5, 1) := by decide +kernel
theorem dX11_count_114 : decode cX11_count 114 = .ok (.iaload, 1) := by decide +kernel
theorem dX11_count_115 : decode cX11_count 115 = .ok (.ireturn, 1) := by decide +kernel
theorem dX11_count_116 : decode cX11_count 116 = .ok (.aload_n 0, 1) := by decide +kernel
theorem dX11_count_117 : decode cX11_count 117 = .ok (.getfield 57, 3) := by decide +kernel
theorem dX11_count_120 : decode cX11_count 120 = .ok (.iconst 2, 1) := by decide +kernel
theorem dX11_count_121 : decode cX11_count 121 = .ok (.iaload, 1) := by decide +kernel
theorem dX11_count_122 : decode cX11_count 122 = .ok (.ireturn, 1) := by decide +kernel
theorem dX11_count_123 : decode cX11_count 123 = .ok (.aload_n 0, 1) := by decide +kernel
theorem dX11_count_124 : decode cX11_count 124 = .ok (.getfield 57, 3) := by decide +kernel
theorem dX11_count_127 : decode cX11_count 127 = .ok (.iconst 3, 1) := by decide +kernel
theorem dX11_count_128 : decode cX11_count 128 = .ok (.iaload, 1) := by decide +kernel
theorem dX11_count_129 : decode cX11_count 129 = .ok (.ireturn, 1) := by decide +kernel
theorem dX11_count_130 : decode cX11_count 130 = .ok (.aload_n 0, 1) := by decide +kernel
theorem dX11_count_131 : decode cX11_count 131 = .ok (.getfield 57, 3) := by decide +kernel
theorem dX11_count_134 : decode cX11_count 134 = .ok (.iconst 4, 1) := by decide +kernel
theorem dX11_count_135 : decode cX11_count 135 = .ok (.iaload, 1) := by decide +kernel
theorem dX11_count_136 : decode cX11_count 136 = .ok (.ireturn, 1) := by decide +kernel
theorem dX11_count_137 : decode cX11_count 137 = .ok (.aload_n 0, 1) := by decide +kernel
theorem dX11_count_138 : decode cX11_count 138 = .ok (.getfield 57, 3) := by decide +kernel
theorem dX11_count_141 : decode cX11_count 141 = .ok (.iconst 1, 1) := by decide +kernel
theorem dX11_count_142 : decode cX11_count 142 = .ok (.iaload, 1) := by decide +kernel
theorem dX11_count_143 : decode cX11_count 143 = .ok (.ireturn, 1) := by decide +kernel
theorem dX11_count_144 : decode cX11_count 144 = .ok (.aload_n 0, 1) := by decide +kernel
theorem dX11_count_145 : decode cX11_count 145 = .ok (.getfield 109, 3) := by decide +kernel
theorem dX11_count_148 : decode cX11_count 148 = .ok (.ireturn, 1) := by decide +kernel
theorem dX11_count_149 : decode cX11_count 149 = .ok (.aload_n 0, 1) := by decide +kernel
theorem dX11_count_150 : decode cX11_count 150 = .ok (.getfield 112, 3) := by decide +kernel
theorem dX11_count_153 : decode cX11_count 153 = .ok (.ireturn, 1) := by decide +kernel
theorem dX11_count_154 : decode cX11_count 154 = .ok (.aload_n 0, 1) := by decide +kernel
theorem dX11_count_155 : decode cX11_count 155 = .ok (.getfield 115, 3) := by decide +kernel
theorem dX11_count_158 : decode cX11_count 158 = .ok (.ireturn, 1) := by decide +kernel
theorem dX11_count_159 : decode cX11_count 159 = .ok (.aload_n 0, 1) := by decide +kernel
theorem dX11_count_160 : decode cX11_count 160 = .ok (.getfield 118, 3) := by decide +kernel
theorem dX11_count_163 : decode cX11_count 163 = .ok (.ireturn, 1) := by decide +kernel
theorem dX11_count_164 : decode cX11_count 164 = .ok (.aload_n 0, 1) := by decide +kernel
theorem dX11_count_165 : decode cX11_count 165 = .ok (.getfield 69, 3) := by decide +kernel
theorem dX11_count_168 : decode cX11_count 168 = .ok (.ireturn, 1) := by decide +kernel
theorem dX11_count_169 : decode cX11_count 169 = .ok (.iconst (-1), 1) := by decide +kernel
theorem dX11_count_170 : decode cX11_count 170 = .ok (.ireturn, 1) := by decide +kernel
theorem dX11_keep_0 : decode cX11_keep 0 = .ok (.aload_n 0, 1) := by decide +kernel
theorem dX11_keep_1 : decode cX11_keep 1 = .ok (.iconst 0, 1) := by decide +kernel
theorem dX11_keep_2 : decode cX11_keep 2 = .ok (.putfield 3, 3) := by decide +kernel
theorem dX11_keep_5 : decode cX11_keep 5 = .ok (.iconst 0, 1) := by decide +kernel
theorem dX11_keep_6 : decode cX11_keep 6 = .ok (.istore_n 1, 1) := by decide +kernel
theorem dX11_keep_7 : decode cX11_keep 7 = .ok (.iload_n 1, 1) := by decide +kernel
theorem dX11_keep_8 : decode cX11_keep 8 = .ok (.sipush 781, 3) := by decide +kernel
theorem dX11_keep_11 : decode cX11_keep 11 = .ok (.if_icmp .ge 21, 3) := by decide +kernel
theorem dX11_keep_14 : decode cX11_keep 14 = .ok (.aload_n 0, 1) := by decide +kernel
theorem dX11_keep_15 : decode cX11_keep 15 = .ok (.getfield 60, 3) := by decide +kernel
theorem dX11_keep_18 : decode cX11_keep 18 = .ok (.iload_n 1, 1) := by decide +kernel
theorem dX11_keep_19 : decode cX11_keep 19 = .ok (.aload_n 0, 1) := by decide +kernel
theorem dX11_keep_20 : decode cX11_keep 20 = .ok (.getfield 57, 3) := by decide +kernel
theorem dX11_keep_23 : decode cX11_keep 23 = .ok (.iload_n 1, 1) := by decide +kernel
theorem dX11_keep_24 : decode cX11_keep 24 = .ok (.iaload, 1) := by decide +kernel
theorem dX11_keep_25 : decode cX11_keep 25 = .ok (.iastore, 1) := by decide +kernel
theorem dX11_keep_26 : decode cX11_keep 26 = .ok (.iinc 1 1, 3) := by decide +kernel
theorem dX11_keep_29 : decode cX11_keep 29 = .ok (.goto (-22), 3) := by decide +kernel
theorem dX11_keep_32 : decode cX11_keep 32 = .ok (.aload_n 0, 1) := by decide +kernel
theorem dX11_keep_33 : decode cX11_keep 33 = .ok (.iconst 1, 1) := by decide +kernel
theorem dX11_keep_34 : decode cX11_keep 34 = .ok (.putfield 121, 3) := by decide +kernel
theorem dX11_keep_37 : decode cX11_keep 37 = .ok (.iconst 1, 1) := by decide +kernel
theorem dX11_keep_38 : decode cX11_keep 38 = .ok (.ireturn, 1) := by decide +kernel
theorem dX11_back_0 : decode cX11_back 0 = .ok (.aload_n 0, 1) := by decide +kernel
theorem dX11_back_1 : decode cX11_back 1 = .ok (.iconst 0, 1) := by decide +kernel
theorem dX11_back_2 : decode cX11_back 2 = .ok (.putfield 3, 3) := by decide +kernel
theorem dX11_back_5 : decode cX11_back 5 = .ok (.iconst 0, 1) := by decide +kernel
theorem dX11_back_6 : decode cX11_back 6 = .ok (.istore_n 1, 1) := by decide +kernel
theorem dX11_back_7 : decode cX11_back 7 = .ok (.iload_n 1, 1) := by decide +kernel
theorem dX11_back_8 : decode cX11_back 8 = .ok (.sipush 781, 3) := by decide +kernel
theorem dX11_back_11 : decode cX11_back 11 = .ok (.if_icmp .ge 28, 3) := by decide +kernel
theorem dX11_back_14 : decode cX11_back 14 = .ok (.aload_n 0, 1) := by decide +kernel
theorem dX11_back_15 : decode cX11_back 15 = .ok (.getfield 121, 3) := by decide +kernel
theorem dX11_back_18 : decode cX11_back 18 = .ok (.ifCond .eq 21, 3) := by decide +kernel
theorem dX11_back_21 : decode cX11_back 21 = .ok (.aload_n 0, 1) := by decide +kernel
theorem dX11_back_22 : decode cX11_back 22 = .ok (.getfield 57, 3) := by decide +kernel
theorem dX11_back_25 : decode cX11_back 25 = .ok (.iload_n 1, 1) := by decide +kernel
theorem dX11_back_26 : decode cX11_back 26 = .ok (.aload_n 0, 1) := by decide +kernel
theorem dX11_back_27 : decode cX11_back 27 = .ok (.getfield 60, 3) := by decide +kernel
theorem dX11_back_30 : decode cX11_back 30 = .ok (.iload_n 1, 1) := by decide +kernel
theorem dX11_back_31 : decode cX11_back 31 = .ok (.iaload, 1) := by decide +kernel
theorem dX11_back_32 : decode cX11_back 32 = .ok (.iastore, 1) := by decide +kernel
theorem dX11_back_33 : decode cX11_back 33 = .ok (.iinc 1 1, 3) := by decide +kernel
theorem dX11_back_36 : decode cX11_back 36 = .ok (.goto (-29), 3) := by decide +kernel
theorem dX11_back_39 : decode cX11_back 39 = .ok (.aload_n 0, 1) := by decide +kernel
theorem dX11_back_40 : decode cX11_back 40 = .ok (.getfield 121, 3) := by decide +kernel
theorem dX11_back_43 : decode cX11_back 43 = .ok (.ireturn, 1) := by decide +kernel
end
section
theorem dL_play_0 : decode cL_play 0 = .ok (.aload_n 1, 1) := by decide +kernel
theorem dL_play_1 : decode cL_play 1 = .ok (.iconst 0, 1) := by decide +kernel
theorem dL_play_2 : decode cL_play 2 = .ok (.aload_n 0, 1) := by decide +kernel
theorem dL_play_3 : decode cL_play 3 = .ok (.invokevirtual 7, 3) := by decide +kernel
theorem dL_play_6 : decode cL_play 6 = .ok (.i2l, 1) := by decide +kernel
theorem dL_play_7 : decode cL_play 7 = .ok (.lastore, 1) := by decide +kernel
theorem dL_play_8 : decode cL_play 8 = .ok (.goto 6, 3) := by decide +kernel
theorem dL_play_11 : decode cL_play 11 = .ok (.astore_n 2, 1) := by decide +kernel
theorem dL_play_12 : decode cL_play 12 = .ok (.iconst 1, 1) := by decide +kernel
theorem dL_play_13 : decode cL_play 13 = .ok (.ireturn, 1) := by decide +kernel
theorem dL_play_14 : decode cL_play 14 = .ok (.iconst 0, 1) := by decide +kernel
theorem dL_play_15 : decode cL_play 15 = .ok (.ireturn, 1) := by decide +kernel
theorem dL_set_0 : decode cL_set 0 = .ok (.aload_n 3, 1) := by decide +kernel
theorem dL_set_1 : decode cL_set 1 = .ok (.iconst 0, 1) := by decide +kernel
theorem dL_set_2 : decode cL_set 2 = .ok (.aload_n 0, 1) := by decide +kernel
theorem dL_set_3 : decode cL_set 3 = .ok (.iload_n 1, 1) := by decide +kernel
theorem dL_set_4 : decode cL_set 4 = .ok (.iload_n 2, 1) := by decide +kernel
theorem dL_set_5 : decode cL_set 5 = .ok (.invokevirtual 15, 3) := by decide +kernel
theorem dL_set_8 : decode cL_set 8 = .ok (.i2l, 1) := by decide +kernel
theorem dL_set_9 : decode cL_set 9 = .ok (.lastore, 1) := by decide +kernel
theorem dL_set_10 : decode cL_set 10 = .ok (.goto 7, 3) := by decide +kernel
theorem dL_set_13 : decode cL_set 13 = .ok (.astore 4, 2) := by decide +kernel
theorem dL_set_15 : decode cL_set 15 = .ok (.iconst 1, 1) := by decide +kernel
theorem dL_set_16 : decode cL_set 16 = .ok (.ireturn, 1) := by decide +kernel
theorem dL_set_17 : decode cL_set 17 = .ok (.iconst 0, 1) := by decide +kernel
theorem dL_set_18 : decode cL_set 18 = .ok (.ireturn, 1) := by decide +kernel
theorem dL_variable_0 : decode cL_variable 0 = .ok (.aload_n 2, 1) := by decide +kernel
theorem dL_variable_1 : decode cL_variable 1 = .ok (.iconst 0, 1) := by decide +kernel
theorem dL_variable_2 : decode cL_variable 2 = .ok (.aload_n 0, 1) := by decide +kernel
theorem dL_variable_3 : decode cL_variable 3 = .ok (.iload_n 1, 1) := by decide +kernel
theorem dL_variable_4 : decode cL_variable 4 = .ok (.invokevirtual 21, 3) := by decide +kernel
theorem dL_variable_7 : decode cL_variable 7 = .ok (.i2l, 1) := by decide +kernel
theorem dL_variable_8 : decode cL_variable 8 = .ok (.lastore, 1) := by decide +kernel
theorem dL_variable_9 : decode cL_variable 9 = .ok (.goto 6, 3) := by decide +kernel
theorem dL_variable_12 : decode cL_variable 12 = .ok (.astore_n 3, 1) := by decide +kernel
theorem dL_variable_13 : decode cL_variable 13 = .ok (.iconst 1, 1) := by decide +kernel
theorem dL_variable_14 : decode cL_variable 14 = .ok (.ireturn, 1) := by decide +kernel
theorem dL_variable_15 : decode cL_variable 15 = .ok (.iconst 0, 1) := by decide +kernel
theorem dL_variable_16 : decode cL_variable 16 = .ok (.ireturn, 1) := by decide +kernel
theorem dL_actor_0 : decode cL_actor 0 = .ok (.aload_n 3, 1) := by decide +kernel
theorem dL_actor_1 : decode cL_actor 1 = .ok (.iconst 0, 1) := by decide +kernel
theorem dL_actor_2 : decode cL_actor 2 = .ok (.aload_n 0, 1) := by decide +kernel
theorem dL_actor_3 : decode cL_actor 3 = .ok (.iload_n 1, 1) := by decide +kernel
theorem dL_actor_4 : decode cL_actor 4 = .ok (.iload_n 2, 1) := by decide +kernel
theorem dL_actor_5 : decode cL_actor 5 = .ok (.invokevirtual 25, 3) := by decide +kernel
theorem dL_actor_8 : decode cL_actor 8 = .ok (.i2l, 1) := by decide +kernel
theorem dL_actor_9 : decode cL_actor 9 = .ok (.lastore, 1) := by decide +kernel
theorem dL_actor_10 : decode cL_actor 10 = .ok (.goto 7, 3) := by decide +kernel
theorem dL_actor_13 : decode cL_actor 13 = .ok (.astore 4, 2) := by decide +kernel
theorem dL_actor_15 : decode cL_actor 15 = .ok (.iconst 1, 1) := by decide +kernel
theorem dL_actor_16 : decode cL_actor 16 = .ok (.ireturn, 1) := by decide +kernel
theorem dL_actor_17 : decode cL_actor 17 = .ok (.iconst 0, 1) := by decide +kernel
theorem dL_actor_18 : decode cL_actor 18 = .ok (.ireturn, 1) := by decide +kernel
theorem dL_object_0 : decode cL_object 0 = .ok (.aload_n 3, 1) := by decide +kernel
theorem dL_object_1 : decode cL_object 1 = .ok (.iconst 0, 1) := by decide +kernel
theorem dL_object_2 : decode cL_object 2 = .ok (.aload_n 0, 1) := by decide +kernel
theorem dL_object_3 : decode cL_object 3 = .ok (.iload_n 1, 1) := by decide +kernel
theorem dL_object_4 : decode cL_object 4 = .ok (.iload_n 2, 1) := by decide +kernel
theorem dL_object_5 : decode cL_object 5 = .ok (.invokevirtual 28, 3) := by decide +kernel
theorem dL_object_8 : decode cL_object 8 = .ok (.i2l, 1) := by decide +kernel
theorem dL_object_9 : decode cL_object 9 = .ok (.lastore, 1) := by decide +kernel
theorem dL_object_10 : decode cL_object 10 = .ok (.goto 7, 3) := by decide +kernel
theorem dL_object_13 : decode cL_object 13 = .ok (.astore 4, 2) := by decide +kernel
theorem dL_object_15 : decode cL_object 15 = .ok (.iconst 1, 1) := by decide +kernel
theorem dL_object_16 : decode cL_object 16 = .ok (.ireturn, 1) := by decide +kernel
theorem dL_object_17 : decode cL_object 17 = .ok (.iconst 0, 1) := by decide +kernel
theorem dL_object_18 : decode cL_object 18 = .ok (.ireturn, 1) := by decide +kernel
theorem dL_note_0 : decode cL_note 0 = .ok (.aload_n 2, 1) := by decide +kernel
theorem dL_note_1 : decode cL_note 1 = .ok (.iconst 0, 1) := by decide +kernel
theorem dL_note_2 : decode cL_note 2 = .ok (.aload_n 0, 1) := by decide +kernel
theorem dL_note_3 : decode cL_note 3 = .ok (.iload_n 1, 1) := by decide +kernel
theorem dL_note_4 : decode cL_note 4 = .ok (.invokevirtual 31, 3) := by decide +kernel
theorem dL_note_7 : decode cL_note 7 = .ok (.i2l, 1) := by decide +kernel
theorem dL_note_8 : decode cL_note 8 = .ok (.lastore, 1) := by decide +kernel
theorem dL_note_9 : decode cL_note 9 = .ok (.goto 6, 3) := by decide +kernel
theorem dL_note_12 : decode cL_note 12 = .ok (.astore_n 3, 1) := by decide +kernel
theorem dL_note_13 : decode cL_note 13 = .ok (.iconst 1, 1) := by decide +kernel
theorem dL_note_14 : decode cL_note 14 = .ok (.ireturn, 1) := by decide +kernel
theorem dL_note_15 : decode cL_note 15 = .ok (.iconst 0, 1) := by decide +kernel
theorem dL_note_16 : decode cL_note 16 = .ok (.ireturn, 1) := by decide +kernel
theorem dL_sentence_0 : decode cL_sentence 0 = .ok (.aload_n 3, 1) := by decide +kernel
theorem dL_sentence_1 : decode cL_sentence 1 = .ok (.iconst 0, 1) := by decide +kernel
theorem dL_sentence_2 : decode cL_sentence 2 = .ok (.aload_n 0, 1) := by decide +kernel
theorem dL_sentence_3 : decode cL_sentence 3 = .ok (.iload_n 1, 1) := by decide +kernel
theorem dL_sentence_4 : decode cL_sentence 4 = .ok (.iload_n 2, 1) := by decide +kernel
theorem dL_sentence_5 : decode cL_sentence 5 = .ok (.invokevirtual 34, 3) := by decide +kernel
theorem dL_sentence_8 : decode cL_sentence 8 = .ok (.i2l, 1) := by decide +kernel
theorem dL_sentence_9 : decode cL_sentence 9 = .ok (.lastore, 1) := by decide +kernel
theorem dL_sentence_10 : decode cL_sentence 10 = .ok (.goto 7, 3) := by decide +kernel
theorem dL_sentence_13 : decode cL_sentence 13 = .ok (.astore 4, 2) := by decide +kernel
theorem dL_sentence_15 : decode cL_sentence 15 = .ok (.iconst 1, 1) := by decide +kernel
theorem dL_sentence_16 : decode cL_sentence 16 = .ok (.ireturn, 1) := by decide +kernel
theorem dL_sentence_17 : decode cL_sentence 17 = .ok (.iconst 0, 1) := by decide +kernel
theorem dL_sentence_18 : decode cL_sentence 18 = .ok (.ireturn, 1) := by decide +kernel
theorem dL_law_0 : decode cL_law 0 = .ok (.new 8, 3) := by decide +kernel
theorem dL_law_3 : decode cL_law 3 = .ok (.dup, 1) := by decide +kernel
theorem dL_law_4 : decode cL_law 4 = .ok (.invokespecial 37, 3) := by decide +kernel
theorem dL_law_7 : decode cL_law 7 = .ok (.astore_n 1, 1) := by decide +kernel
theorem dL_law_8 : decode cL_law 8 = .ok (.new 38, 3) := by decide +kernel
theorem dL_law_11 : decode cL_law 11 = .ok (.dup, 1) := by decide +kernel
theorem dL_law_12 : decode cL_law 12 = .ok (.invokespecial 40, 3) := by decide +kernel
theorem dL_law_15 : decode cL_law 15 = .ok (.astore_n 2, 1) := by decide +kernel
theorem dL_law_16 : decode cL_law 16 = .ok (.iconst 1, 1) := by decide +kernel
theorem dL_law_17 : decode cL_law 17 = .ok (.newarray .long, 2) := by decide +kernel
theorem dL_law_19 : decode cL_law 19 = .ok (.astore_n 3, 1) := by decide +kernel
theorem dL_law_20 : decode cL_law 20 = .ok (.iconst 0, 1) := by decide +kernel
theorem dL_law_21 : decode cL_law 21 = .ok (.istore 4, 2) := by decide +kernel
theorem dL_law_23 : decode cL_law 23 = .ok (.iload 4, 2) := by decide +kernel
theorem dL_law_25 : decode cL_law 25 = .ok (.aload_n 0, 1) := by decide +kernel
theorem dL_law_26 : decode cL_law 26 = .ok (.arraylength, 1) := by decide +kernel
theorem dL_law_27 : decode cL_law 27 = .ok (.bipush 6, 2) := by decide +kernel
theorem dL_law_29 : decode cL_law 29 = .ok (.isub, 1) := by decide +kernel
theorem dL_law_30 : decode cL_law 30 = .ok (.if_icmp .gt 1144, 3) := by decide +kernel
theorem dL_law_33 : decode cL_law 33 = .ok (.aload_n 0, 1) := by decide +kernel
theorem dL_law_34 : decode cL_law 34 = .ok (.iload 4, 2) := by decide +kernel
theorem dL_law_36 : decode cL_law 36 = .ok (.iaload, 1) := by decide +kernel
theorem dL_law_37 : decode cL_law 37 = .ok (.bipush 31, 2) := by decide +kernel
theorem dL_law_39 : decode cL_law 39 = .ok (.iand, 1) := by decide +kernel
theorem dL_law_40 : decode cL_law 40 = .ok (.tableswitch 1128 0 22 #[108, 181, 206, 250, 275, 300, 325, 374, 423, 491, 547, 584, 652, 720, 757, 806, 855, 904, 953, 1009, 1077, 1102, 1115], 108) := by decide +kernel
theorem dL_law_148 : decode cL_law 148 = .ok (.aload_n 1, 1) := by decide +kernel
theorem dL_law_149 : decode cL_law 149 = .ok (.aload_n 0, 1) := by decide +kernel
theorem dL_law_150 : decode cL_law 150 = .ok (.iload 4, 2) := by decide +kernel
theorem dL_law_152 : decode cL_law 152 = .ok (.iconst 1, 1) := by decide +kernel
theorem dL_law_153 : decode cL_law 153 = .ok (.iadd, 1) := by decide +kernel
theorem dL_law_154 : decode cL_law 154 = .ok (.iaload, 1) := by decide +kernel
theorem dL_law_155 : decode cL_law 155 = .ok (.aload_n 0, 1) := by decide +kernel
theorem dL_law_156 : decode cL_law 156 = .ok (.iload 4, 2) := by decide +kernel
theorem dL_law_158 : decode cL_law 158 = .ok (.iconst 2, 1) := by decide +kernel
theorem dL_law_159 : decode cL_law 159 = .ok (.iadd, 1) := by decide +kernel
theorem dL_law_160 : decode cL_law 160 = .ok (.iaload, 1) := by decide +kernel
theorem dL_law_161 : decode cL_law 161 = .ok (.aload_n 0, 1) := by decide +kernel
theorem dL_law_162 : decode cL_law 162 = .ok (.iload 4, 2) := by decide +kernel
theorem dL_law_164 : decode cL_law 164 = .ok (.iconst 3, 1) := by decide +kernel
theorem dL_law_165 : decode cL_law 165 = .ok (.iadd, 1) := by decide +kernel
theorem dL_law_166 : decode cL_law 166 = .ok (.iaload, 1) := by decide +kernel
theorem dL_law_167 : decode cL_law 167 = .ok (.aload_n 0, 1) := by decide +kernel
theorem dL_law_168 : decode cL_law 168 = .ok (.iload 4, 2) := by decide +kernel
theorem dL_law_170 : decode cL_law 170 = .ok (.iconst 4, 1) := by decide +kernel
theorem dL_law_171 : decode cL_law 171 = .ok (.iadd, 1) := by decide +kernel
theorem dL_law_172 : decode cL_law 172 = .ok (.iaload, 1) := by decide +kernel
theorem dL_law_173 : decode cL_law 173 = .ok (.aload_n 0, 1) := by decide +kernel
theorem dL_law_174 : decode cL_law 174 = .ok (.iload 4, 2) := by decide +kernel
theorem dL_law_176 : decode cL_law 176 = .ok (.iconst 5, 1) := by decide +kernel
theorem dL_law_177 : decode cL_law 177 = .ok (.iadd, 1) := by decide +kernel
theorem dL_law_178 : decode cL_law 178 = .ok (.iaload, 1) := by decide +kernel
theorem dL_law_179 : decode cL_law 179 = .ok (.invokevirtual 41, 3) := by decide +kernel
theorem dL_law_182 : decode cL_law 182 = .ok (.aload_n 2, 1) := by decide +kernel
theorem dL_law_183 : decode cL_law 183 = .ok (.aload_n 0, 1) := by decide +kernel
theorem dL_law_184 : decode cL_law 184 = .ok (.iload 4, 2) := by decide +kernel
theorem dL_law_186 : decode cL_law 186 = .ok (.iconst 1, 1) := by decide +kernel
theorem dL_law_187 : decode cL_law 187 = .ok (.iadd, 1) := by decide +kernel
theorem dL_law_188 : decode cL_law 188 = .ok (.iaload, 1) := by decide +kernel
theorem dL_law_189 : decode cL_law 189 = .ok (.aload_n 0, 1) := by decide +kernel
theorem dL_law_190 : decode cL_law 190 = .ok (.iload 4, 2) := by decide +kernel
theorem dL_law_192 : decode cL_law 192 = .ok (.iconst 2, 1) := by decide +kernel
theorem dL_law_193 : decode cL_law 193 = .ok (.iadd, 1) := by decide +kernel
theorem dL_law_194 : decode cL_law 194 = .ok (.iaload, 1) := by decide +kernel
theorem dL_law_195 : decode cL_law 195 = .ok (.aload_n 0, 1) := by decide +kernel
theorem dL_law_196 : decode cL_law 196 = .ok (.iload 4, 2) := by decide +kernel
theorem dL_law_198 : decode cL_law 198 = .ok (.iconst 3, 1) := by decide +kernel
theorem dL_law_199 : decode cL_law 199 = .ok (.iadd, 1) := by decide +kernel
theorem dL_law_200 : decode cL_law 200 = .ok (.iaload, 1) := by decide +kernel
theorem dL_law_201 : decode cL_law 201 = .ok (.aload_n 0, 1) := by decide +kernel
theorem dL_law_202 : decode cL_law 202 = .ok (.iload 4, 2) := by decide +kernel
theorem dL_law_204 : decode cL_law 204 = .ok (.iconst 4, 1) := by decide +kernel
theorem dL_law_205 : decode cL_law 205 = .ok (.iadd, 1) := by decide +kernel
theorem dL_law_206 : decode cL_law 206 = .ok (.iaload, 1) := by decide +kernel
theorem dL_law_207 : decode cL_law 207 = .ok (.aload_n 0, 1) := by decide +kernel
theorem dL_law_208 : decode cL_law 208 = .ok (.iload 4, 2) := by decide +kernel
theorem dL_law_210 : decode cL_law 210 = .ok (.iconst 5, 1) := by decide +kernel
theorem dL_law_211 : decode cL_law 211 = .ok (.iadd, 1) := by decide +kernel
theorem dL_law_212 : decode cL_law 212 = .ok (.iaload, 1) := by decide +kernel
theorem dL_law_213 : decode cL_law 213 = .ok (.invokevirtual 45, 3) := by decide +kernel
theorem dL_law_216 : decode cL_law 216 = .ok (.if_icmp .eq 952, 3) := by decide +kernel
theorem dL_law_219 : decode cL_law 219 = .ok (.iconst 0, 1) := by decide +kernel
theorem dL_law_220 : decode cL_law 220 = .ok (.ireturn, 1) := by decide +kernel
theorem dL_law_221 : decode cL_law 221 = .ok (.aload_n 1, 1) := by decide +kernel
theorem dL_law_222 : decode cL_law 222 = .ok (.aload_n 0, 1) := by decide +kernel
theorem dL_law_223 : decode cL_law 223 = .ok (.iload 4, 2) := by decide +kernel
theorem dL_law_225 : decode cL_law 225 = .ok (.iconst 1, 1) := by decide +kernel
theorem dL_law_226 : decode cL_law 226 = .ok (.iadd, 1) := by decide +kernel
theorem dL_law_227 : decode cL_law 227 = .ok (.iaload, 1) := by decide +kernel
theorem dL_law_228 : decode cL_law 228 = .ok (.invokevirtual 46, 3) := by decide +kernel
theorem dL_law_231 : decode cL_law 231 = .ok (.aload_n 2, 1) := by decide +kernel
theorem dL_law_232 : decode cL_law 232 = .ok (.aload_n 0, 1) := by decide +kernel
theorem dL_law_233 : decode cL_law 233 = .ok (.iload 4, 2) := by decide +kernel
theorem dL_law_235 : decode cL_law 235 = .ok (.iconst 1, 1) := by decide +kernel
theorem dL_law_236 : decode cL_law 236 = .ok (.iadd, 1) := by decide +kernel
theorem dL_law_237 : decode cL_law 237 = .ok (.iaload, 1) := by decide +kernel
theorem dL_law_238 : decode cL_law 238 = .ok (.invokevirtual 50, 3) := by decide +kernel
theorem dL_law_241 : decode cL_law 241 = .ok (.if_icmp .eq 927, 3) := by decide +kernel
theorem dL_law_244 : decode cL_law 244 = .ok (.iconst 0, 1) := by decide +kernel
theorem dL_law_245 : decode cL_law 245 = .ok (.ireturn, 1) := by decide +kernel
theorem dL_law_246 : decode cL_law 246 = .ok (.aload_n 1, 1) := by decide +kernel
theorem dL_law_247 : decode cL_law 247 = .ok (.aload_n 3, 1) := by decide +kernel
theorem dL_law_248 : decode cL_law 248 = .ok (.invokestatic 51, 3) := by decide +kernel
theorem dL_law_251 : decode cL_law 251 = .ok (.istore 5, 2) := by decide +kernel
theorem dL_law_253 : decode cL_law 253 = .ok (.aload_n 2, 1) := by decide +kernel
theorem dL_law_254 : decode cL_law 254 = .ok (.invokevirtual 56, 3) := by decide +kernel
theorem dL_law_257 : decode cL_law 257 = .ok (.istore 6, 2) := by decide +kernel
theorem dL_law_259 : decode cL_law 259 = .ok (.aload_n 2, 1) := by decide +kernel
theorem dL_law_260 : decode cL_law 260 = .ok (.invokevirtual 57, 3) := by decide +kernel
theorem dL_law_263 : decode cL_law 263 = .ok (.iload 5, 2) := by decide +kernel
theorem dL_law_265 : decode cL_law 265 = .ok (.if_icmp .eq 5, 3) := by decide +kernel
theorem dL_law_268 : decode cL_law 268 = .ok (.iconst 0, 1) := by decide +kernel
theorem dL_law_269 : decode cL_law 269 = .ok (.ireturn, 1) := by decide +kernel
theorem dL_law_270 : decode cL_law 270 = .ok (.iload 5, 2) := by decide +kernel
theorem dL_law_272 : decode cL_law 272 = .ok (.ifCond .ne 15, 3) := by decide +kernel
theorem dL_law_275 : decode cL_law 275 = .ok (.aload_n 3, 1) := by decide +kernel
theorem dL_law_276 : decode cL_law 276 = .ok (.iconst 0, 1) := by decide +kernel
theorem dL_law_277 : decode cL_law 277 = .ok (.laload, 1) := by decide +kernel
theorem dL_law_278 : decode cL_law 278 = .ok (.iload 6, 2) := by decide +kernel
theorem dL_law_280 : decode cL_law 280 = .ok (.i2l, 1) := by decide +kernel
theorem dL_law_281 : decode cL_law 281 = .ok (.lcmp, 1) := by decide +kernel
theorem dL_law_282 : decode cL_law 282 = .ok (.ifCond .eq 5, 3) := by decide +kernel
theorem dL_law_285 : decode cL_law 285 = .ok (.iconst 0, 1) := by decide +kernel
theorem dL_law_286 : decode cL_law 286 = .ok (.ireturn, 1) := by decide +kernel
theorem dL_law_287 : decode cL_law 287 = .ok (.goto 881, 3) := by decide +kernel
theorem dL_law_290 : decode cL_law 290 = .ok (.aload_n 1, 1) := by decide +kernel
theorem dL_law_291 : decode cL_law 291 = .ok (.aload_n 0, 1) := by decide +kernel
theorem dL_law_292 : decode cL_law 292 = .ok (.iload 4, 2) := by decide +kernel
theorem dL_law_294 : decode cL_law 294 = .ok (.iconst 1, 1) := by decide +kernel
theorem dL_law_295 : decode cL_law 295 = .ok (.iadd, 1) := by decide +kernel
theorem dL_law_296 : decode cL_law 296 = .ok (.iaload, 1) := by decide +kernel
theorem dL_law_297 : decode cL_law 297 = .ok (.invokevirtual 60, 3) := by decide +kernel
theorem dL_law_300 : decode cL_law 300 = .ok (.aload_n 2, 1) := by decide +kernel
theorem dL_law_301 : decode cL_law 301 = .ok (.aload_n 0, 1) := by decide +kernel
theorem dL_law_302 : decode cL_law 302 = .ok (.iload 4, 2) := by decide +kernel
theorem dL_law_304 : decode cL_law 304 = .ok (.iconst 1, 1) := by decide +kernel
theorem dL_law_305 : decode cL_law 305 = .ok (.iadd, 1) := by decide +kernel
theorem dL_law_306 : decode cL_law 306 = .ok (.iaload, 1) := by decide +kernel
theorem dL_law_307 : decode cL_law 307 = .ok (.invokevirtual 63, 3) := by decide +kernel
theorem dL_law_310 : decode cL_law 310 = .ok (.if_icmp .eq 858, 3) := by decide +kernel
theorem dL_law_313 : decode cL_law 313 = .ok (.iconst 0, 1) := by decide +kernel
theorem dL_law_314 : decode cL_law 314 = .ok (.ireturn, 1) := by decide +kernel
theorem dL_law_315 : decode cL_law 315 = .ok (.aload_n 1, 1) := by decide +kernel
theorem dL_law_316 : decode cL_law 316 = .ok (.aload_n 0, 1) := by decide +kernel
theorem dL_law_317 : decode cL_law 317 = .ok (.iload 4, 2) := by decide +kernel
theorem dL_law_319 : decode cL_law 319 = .ok (.iconst 1, 1) := by decide +kernel
theorem dL_law_320 : decode cL_law 320 = .ok (.iadd, 1) := by decide +kernel
theorem dL_law_321 : decode cL_law 321 = .ok (.iaload, 1) := by decide +kernel
theorem dL_law_322 : decode cL_law 322 = .ok (.invokevirtual 64, 3) := by decide +kernel
theorem dL_law_325 : decode cL_law 325 = .ok (.aload_n 2, 1) := by decide +kernel
theorem dL_law_326 : decode cL_law 326 = .ok (.aload_n 0, 1) := by decide +kernel
theorem dL_law_327 : decode cL_law 327 = .ok (.iload 4, 2) := by decide +kernel
theorem dL_law_329 : decode cL_law 329 = .ok (.iconst 1, 1) := by decide +kernel
theorem dL_law_330 : decode cL_law 330 = .ok (.iadd, 1) := by decide +kernel
theorem dL_law_331 : decode cL_law 331 = .ok (.iaload, 1) := by decide +kernel
theorem dL_law_332 : decode cL_law 332 = .ok (.invokevirtual 67, 3) := by decide +kernel
theorem dL_law_335 : decode cL_law 335 = .ok (.if_icmp .eq 833, 3) := by decide +kernel
theorem dL_law_338 : decode cL_law 338 = .ok (.iconst 0, 1) := by decide +kernel
theorem dL_law_339 : decode cL_law 339 = .ok (.ireturn, 1) := by decide +kernel
theorem dL_law_340 : decode cL_law 340 = .ok (.aload_n 1, 1) := by decide +kernel
theorem dL_law_341 : decode cL_law 341 = .ok (.aload_n 0, 1) := by decide +kernel
theorem dL_law_342 : decode cL_law 342 = .ok (.iload 4, 2) := by decide +kernel
theorem dL_law_344 : decode cL_law 344 = .ok (.iconst 1, 1) := by decide +kernel
theorem dL_law_345 : decode cL_law 345 = .ok (.iadd, 1) := by decide +kernel
theorem dL_law_346 : decode cL_law 346 = .ok (.iaload, 1) := by decide +kernel
theorem dL_law_347 : decode cL_law 347 = .ok (.invokevirtual 68, 3) := by decide +kernel
theorem dL_law_350 : decode cL_law 350 = .ok (.aload_n 2, 1) := by decide +kernel
theorem dL_law_351 : decode cL_law 351 = .ok (.aload_n 0, 1) := by decide +kernel
theorem dL_law_352 : decode cL_law 352 = .ok (.iload 4, 2) := by decide +kernel
theorem dL_law_354 : decode cL_law 354 = .ok (.iconst 1, 1) := by decide +kernel
theorem dL_law_355 : decode cL_law 355 = .ok (.iadd, 1) := by decide +kernel
theorem dL_law_356 : decode cL_law 356 = .ok (.iaload, 1) := by decide +kernel
theorem dL_law_357 : decode cL_law 357 = .ok (.invokevirtual 71, 3) := by decide +kernel
theorem dL_law_360 : decode cL_law 360 = .ok (.if_icmp .eq 808, 3) := by decide +kernel
theorem dL_law_363 : decode cL_law 363 = .ok (.iconst 0, 1) := by decide +kernel
theorem dL_law_364 : decode cL_law 364 = .ok (.ireturn, 1) := by decide +kernel
theorem dL_law_365 : decode cL_law 365 = .ok (.aload_n 1, 1) := by decide +kernel
theorem dL_law_366 : decode cL_law 366 = .ok (.aload_n 0, 1) := by decide +kernel
theorem dL_law_367 : decode cL_law 367 = .ok (.iload 4, 2) := by decide +kernel
theorem dL_law_369 : decode cL_law 369 = .ok (.iconst 1, 1) := by decide +kernel
theorem dL_law_370 : decode cL_law 370 = .ok (.iadd, 1) := by decide +kernel
theorem dL_law_371 : decode cL_law 371 = .ok (.iaload, 1) := by decide +kernel
theorem dL_law_372 : decode cL_law 372 = .ok (.aload_n 0, 1) := by decide +kernel
theorem dL_law_373 : decode cL_law 373 = .ok (.iload 4, 2) := by decide +kernel
theorem dL_law_375 : decode cL_law 375 = .ok (.iconst 2, 1) := by decide +kernel
theorem dL_law_376 : decode cL_law 376 = .ok (.iadd, 1) := by decide +kernel
theorem dL_law_377 : decode cL_law 377 = .ok (.iaload, 1) := by decide +kernel
theorem dL_law_378 : decode cL_law 378 = .ok (.aload_n 0, 1) := by decide +kernel
theorem dL_law_379 : decode cL_law 379 = .ok (.iload 4, 2) := by decide +kernel
theorem dL_law_381 : decode cL_law 381 = .ok (.iconst 3, 1) := by decide +kernel
theorem dL_law_382 : decode cL_law 382 = .ok (.iadd, 1) := by decide +kernel
theorem dL_law_383 : decode cL_law 383 = .ok (.iaload, 1) := by decide +kernel
theorem dL_law_384 : decode cL_law 384 = .ok (.invokevirtual 72, 3) := by decide +kernel
theorem dL_law_387 : decode cL_law 387 = .ok (.aload_n 2, 1) := by decide +kernel
theorem dL_law_388 : decode cL_law 388 = .ok (.aload_n 0, 1) := by decide +kernel
theorem dL_law_389 : decode cL_law 389 = .ok (.iload 4, 2) := by decide +kernel
theorem dL_law_391 : decode cL_law 391 = .ok (.iconst 1, 1) := by decide +kernel
theorem dL_law_392 : decode cL_law 392 = .ok (.iadd, 1) := by decide +kernel
theorem dL_law_393 : decode cL_law 393 = .ok (.iaload, 1) := by decide +kernel
theorem dL_law_394 : decode cL_law 394 = .ok (.aload_n 0, 1) := by decide +kernel
theorem dL_law_395 : decode cL_law 395 = .ok (.iload 4, 2) := by decide +kernel
theorem dL_law_397 : decode cL_law 397 = .ok (.iconst 2, 1) := by decide +kernel
theorem dL_law_398 : decode cL_law 398 = .ok (.iadd, 1) := by decide +kernel
theorem dL_law_399 : decode cL_law 399 = .ok (.iaload, 1) := by decide +kernel
theorem dL_law_400 : decode cL_law 400 = .ok (.aload_n 0, 1) := by decide +kernel
theorem dL_law_401 : decode cL_law 401 = .ok (.iload 4, 2) := by decide +kernel
theorem dL_law_403 : decode cL_law 403 = .ok (.iconst 3, 1) := by decide +kernel
theorem dL_law_404 : decode cL_law 404 = .ok (.iadd, 1) := by decide +kernel
theorem dL_law_405 : decode cL_law 405 = .ok (.iaload, 1) := by decide +kernel
theorem dL_law_406 : decode cL_law 406 = .ok (.invokevirtual 76, 3) := by decide +kernel
theorem dL_law_409 : decode cL_law 409 = .ok (.if_icmp .eq 759, 3) := by decide +kernel
theorem dL_law_412 : decode cL_law 412 = .ok (.iconst 0, 1) := by decide +kernel
theorem dL_law_413 : decode cL_law 413 = .ok (.ireturn, 1) := by decide +kernel
theorem dL_law_414 : decode cL_law 414 = .ok (.aload_n 1, 1) := by decide +kernel
theorem dL_law_415 : decode cL_law 415 = .ok (.aload_n 0, 1) := by decide +kernel
theorem dL_law_416 : decode cL_law 416 = .ok (.iload 4, 2) := by decide +kernel
theorem dL_law_418 : decode cL_law 418 = .ok (.iconst 1, 1) := by decide +kernel
theorem dL_law_419 : decode cL_law 419 = .ok (.iadd, 1) := by decide +kernel
theorem dL_law_420 : decode cL_law 420 = .ok (.iaload, 1) := by decide +kernel
theorem dL_law_421 : decode cL_law 421 = .ok (.aload_n 0, 1) := by decide +kernel
theorem dL_law_422 : decode cL_law 422 = .ok (.iload 4, 2) := by decide +kernel
theorem dL_law_424 : decode cL_law 424 = .ok (.iconst 2, 1) := by decide +kernel
theorem dL_law_425 : decode cL_law 425 = .ok (.iadd, 1) := by decide +kernel
theorem dL_law_426 : decode cL_law 426 = .ok (.iaload, 1) := by decide +kernel
theorem dL_law_427 : decode cL_law 427 = .ok (.aload_n 0, 1) := by decide +kernel
theorem dL_law_428 : decode cL_law 428 = .ok (.iload 4, 2) := by decide +kernel
theorem dL_law_430 : decode cL_law 430 = .ok (.iconst 3, 1) := by decide +kernel
theorem dL_law_431 : decode cL_law 431 = .ok (.iadd, 1) := by decide +kernel
theorem dL_law_432 : decode cL_law 432 = .ok (.iaload, 1) := by decide +kernel
theorem dL_law_433 : decode cL_law 433 = .ok (.invokevirtual 77, 3) := by decide +kernel
theorem dL_law_436 : decode cL_law 436 = .ok (.aload_n 2, 1) := by decide +kernel
theorem dL_law_437 : decode cL_law 437 = .ok (.aload_n 0, 1) := by decide +kernel
theorem dL_law_438 : decode cL_law 438 = .ok (.iload 4, 2) := by decide +kernel
theorem dL_law_440 : decode cL_law 440 = .ok (.iconst 1, 1) := by decide +kernel
theorem dL_law_441 : decode cL_law 441 = .ok (.iadd, 1) := by decide +kernel
theorem dL_law_442 : decode cL_law 442 = .ok (.iaload, 1) := by decide +kernel
theorem dL_law_443 : decode cL_law 443 = .ok (.aload_n 0, 1) := by decide +kernel
theorem dL_law_444 : decode cL_law 444 = .ok (.iload 4, 2) := by decide +kernel
theorem dL_law_446 : decode cL_law 446 = .ok (.iconst 2, 1) := by decide +kernel
theorem dL_law_447 : decode cL_law 447 = .ok (.iadd, 1) := by decide +kernel
theorem dL_law_448 : decode cL_law 448 = .ok (.iaload, 1) := by decide +kernel
theorem dL_law_449 : decode cL_law 449 = .ok (.aload_n 0, 1) := by decide +kernel
theorem dL_law_450 : decode cL_law 450 = .ok (.iload 4, 2) := by decide +kernel
theorem dL_law_452 : decode cL_law 452 = .ok (.iconst 3, 1) := by decide +kernel
theorem dL_law_453 : decode cL_law 453 = .ok (.iadd, 1) := by decide +kernel
theorem dL_law_454 : decode cL_law 454 = .ok (.iaload, 1) := by decide +kernel
theorem dL_law_455 : decode cL_law 455 = .ok (.invokevirtual 81, 3) := by decide +kernel
theorem dL_law_458 : decode cL_law 458 = .ok (.if_icmp .eq 710, 3) := by decide +kernel
theorem dL_law_461 : decode cL_law 461 = .ok (.iconst 0, 1) := by decide +kernel
theorem dL_law_462 : decode cL_law 462 = .ok (.ireturn, 1) := by decide +kernel
theorem dL_law_463 : decode cL_law 463 = .ok (.aload_n 1, 1) := by decide +kernel
theorem dL_law_464 : decode cL_law 464 = .ok (.aload_n 0, 1) := by decide +kernel
theorem dL_law_465 : decode cL_law 465 = .ok (.iload 4, 2) := by decide +kernel
theorem dL_law_467 : decode cL_law 467 = .ok (.iconst 1, 1) := by decide +kernel
theorem dL_law_468 : decode cL_law 468 = .ok (.iadd, 1) := by decide +kernel
theorem dL_law_469 : decode cL_law 469 = .ok (.iaload, 1) := by decide +kernel
theorem dL_law_470 : decode cL_law 470 = .ok (.aload_n 0, 1) := by decide +kernel
theorem dL_law_471 : decode cL_law 471 = .ok (.iload 4, 2) := by decide +kernel
theorem dL_law_473 : decode cL_law 473 = .ok (.iconst 2, 1) := by decide +kernel
theorem dL_law_474 : decode cL_law 474 = .ok (.iadd, 1) := by decide +kernel
theorem dL_law_475 : decode cL_law 475 = .ok (.iaload, 1) := by decide +kernel
theorem dL_law_476 : decode cL_law 476 = .ok (.aload_n 3, 1) := by decide +kernel
theorem dL_law_477 : decode cL_law 477 = .ok (.invokestatic 82, 3) := by decide +kernel
theorem dL_law_480 : decode cL_law 480 = .ok (.istore 5, 2) := by decide +kernel
theorem dL_law_482 : decode cL_law 482 = .ok (.aload_n 2, 1) := by decide +kernel
theorem dL_law_483 : decode cL_law 483 = .ok (.aload_n 0, 1) := by decide +kernel
theorem dL_law_484 : decode cL_law 484 = .ok (.iload 4, 2) := by decide +kernel
theorem dL_law_486 : decode cL_law 486 = .ok (.iconst 1, 1) := by decide +kernel
theorem dL_law_487 : decode cL_law 487 = .ok (.iadd, 1) := by decide +kernel
theorem dL_law_488 : decode cL_law 488 = .ok (.iaload, 1) := by decide +kernel
theorem dL_law_489 : decode cL_law 489 = .ok (.aload_n 0, 1) := by decide +kernel
theorem dL_law_490 : decode cL_law 490 = .ok (.iload 4, 2) := by decide +kernel
theorem dL_law_492 : decode cL_law 492 = .ok (.iconst 2, 1) := by decide +kernel
theorem dL_law_493 : decode cL_law 493 = .ok (.iadd, 1) := by decide +kernel
theorem dL_law_494 : decode cL_law 494 = .ok (.iaload, 1) := by decide +kernel
theorem dL_law_495 : decode cL_law 495 = .ok (.invokevirtual 85, 3) := by decide +kernel
theorem dL_law_498 : decode cL_law 498 = .ok (.istore 6, 2) := by decide +kernel
theorem dL_law_500 : decode cL_law 500 = .ok (.aload_n 2, 1) := by decide +kernel
theorem dL_law_501 : decode cL_law 501 = .ok (.invokevirtual 57, 3) := by decide +kernel
theorem dL_law_504 : decode cL_law 504 = .ok (.iload 5, 2) := by decide +kernel
theorem dL_law_506 : decode cL_law 506 = .ok (.if_icmp .eq 5, 3) := by decide +kernel
theorem dL_law_509 : decode cL_law 509 = .ok (.iconst 0, 1) := by decide +kernel
theorem dL_law_510 : decode cL_law 510 = .ok (.ireturn, 1) := by decide +kernel
theorem dL_law_511 : decode cL_law 511 = .ok (.iload 5, 2) := by decide +kernel
theorem dL_law_513 : decode cL_law 513 = .ok (.ifCond .ne 15, 3) := by decide +kernel
theorem dL_law_516 : decode cL_law 516 = .ok (.aload_n 3, 1) := by decide +kernel
theorem dL_law_517 : decode cL_law 517 = .ok (.iconst 0, 1) := by decide +kernel
theorem dL_law_518 : decode cL_law 518 = .ok (.laload, 1) := by decide +kernel
theorem dL_law_519 : decode cL_law 519 = .ok (.iload 6, 2) := by decide +kernel
theorem dL_law_521 : decode cL_law 521 = .ok (.i2l, 1) := by decide +kernel
theorem dL_law_522 : decode cL_law 522 = .ok (.lcmp, 1) := by decide +kernel
theorem dL_law_523 : decode cL_law 523 = .ok (.ifCond .eq 5, 3) := by decide +kernel
theorem dL_law_526 : decode cL_law 526 = .ok (.iconst 0, 1) := by decide +kernel
theorem dL_law_527 : decode cL_law 527 = .ok (.ireturn, 1) := by decide +kernel
theorem dL_law_528 : decode cL_law 528 = .ok (.goto 640, 3) := by decide +kernel
theorem dL_law_531 : decode cL_law 531 = .ok (.aload_n 1, 1) := by decide +kernel
theorem dL_law_532 : decode cL_law 532 = .ok (.aload_n 0, 1) := by decide +kernel
theorem dL_law_533 : decode cL_law 533 = .ok (.iload 4, 2) := by decide +kernel
theorem dL_law_535 : decode cL_law 535 = .ok (.iconst 1, 1) := by decide +kernel
theorem dL_law_536 : decode cL_law 536 = .ok (.iadd, 1) := by decide +kernel
theorem dL_law_537 : decode cL_law 537 = .ok (.iaload, 1) := by decide +kernel
theorem dL_law_538 : decode cL_law 538 = .ok (.aload_n 3, 1) := by decide +kernel
theorem dL_law_539 : decode cL_law 539 = .ok (.invokestatic 86, 3) := by decide +kernel
theorem dL_law_542 : decode cL_law 542 = .ok (.istore 5, 2) := by decide +kernel
theorem dL_law_544 : decode cL_law 544 = .ok (.aload_n 2, 1) := by decide +kernel
theorem dL_law_545 : decode cL_law 545 = .ok (.aload_n 0, 1) := by decide +kernel
theorem dL_law_546 : decode cL_law 546 = .ok (.iload 4, 2) := by decide +kernel
theorem dL_law_548 : decode cL_law 548 = .ok (.iconst 1, 1) := by decide +kernel
theorem dL_law_549 : decode cL_law 549 = .ok (.iadd, 1) := by decide +kernel
theorem dL_law_550 : decode cL_law 550 = .ok (.iaload, 1) := by decide +kernel
theorem dL_law_551 : decode cL_law 551 = .ok (.invokevirtual 89, 3) := by decide +kernel
theorem dL_law_554 : decode cL_law 554 = .ok (.istore 6, 2) := by decide +kernel
theorem dL_law_556 : decode cL_law 556 = .ok (.aload_n 2, 1) := by decide +kernel
theorem dL_law_557 : decode cL_law 557 = .ok (.invokevirtual 57, 3) := by decide +kernel
theorem dL_law_560 : decode cL_law 560 = .ok (.iload 5, 2) := by decide +kernel
theorem dL_law_562 : decode cL_law 562 = .ok (.if_icmp .eq 5, 3) := by decide +kernel
theorem dL_law_565 : decode cL_law 565 = .ok (.iconst 0, 1) := by decide +kernel
theorem dL_law_566 : decode cL_law 566 = .ok (.ireturn, 1) := by decide +kernel
theorem dL_law_567 : decode cL_law 567 = .ok (.iload 5, 2) := by decide +kernel
theorem dL_law_569 : decode cL_law 569 = .ok (.ifCond .ne 15, 3) := by decide +kernel
theorem dL_law_572 : decode cL_law 572 = .ok (.aload_n 3, 1) := by decide +kernel
theorem dL_law_573 : decode cL_law 573 = .ok (.iconst 0, 1) := by decide +kernel
theorem dL_law_574 : decode cL_law 574 = .ok (.laload, 1) := by decide +kernel
theorem dL_law_575 : decode cL_law 575 = .ok (.iload 6, 2) := by decide +kernel
theorem dL_law_577 : decode cL_law 577 = .ok (.i2l, 1) := by decide +kernel
theorem dL_law_578 : decode cL_law 578 = .ok (.lcmp, 1) := by decide +kernel
theorem dL_law_579 : decode cL_law 579 = .ok (.ifCond .eq 5, 3) := by decide +kernel
theorem dL_law_582 : decode cL_law 582 = .ok (.iconst 0, 1) := by decide +kernel
theorem dL_law_583 : decode cL_law 583 = .ok (.ireturn, 1) := by decide +kernel
theorem dL_law_584 : decode cL_law 584 = .ok (.goto 584, 3) := by decide +kernel
theorem dL_law_587 : decode cL_law 587 = .ok (.aload_n 1, 1) := by decide +kernel
theorem dL_law_588 : decode cL_law 588 = .ok (.aload_n 0, 1) := by decide +kernel
theorem dL_law_589 : decode cL_law 589 = .ok (.iload 4, 2) := by decide +kernel
theorem dL_law_591 : decode cL_law 591 = .ok (.iconst 1, 1) := by decide +kernel
theorem dL_law_592 : decode cL_law 592 = .ok (.iadd, 1) := by decide +kernel
theorem dL_law_593 : decode cL_law 593 = .ok (.iaload, 1) := by decide +kernel
theorem dL_law_594 : decode cL_law 594 = .ok (.aload_n 0, 1) := by decide +kernel
theorem dL_law_595 : decode cL_law 595 = .ok (.iload 4, 2) := by decide +kernel
theorem dL_law_597 : decode cL_law 597 = .ok (.iconst 2, 1) := by decide +kernel
theorem dL_law_598 : decode cL_law 598 = .ok (.iadd, 1) := by decide +kernel
theorem dL_law_599 : decode cL_law 599 = .ok (.iaload, 1) := by decide +kernel
theorem dL_law_600 : decode cL_law 600 = .ok (.invokevirtual 90, 3) := by decide +kernel
theorem dL_law_603 : decode cL_law 603 = .ok (.aload_n 2, 1) := by decide +kernel
theorem dL_law_604 : decode cL_law 604 = .ok (.aload_n 0, 1) := by decide +kernel
theorem dL_law_605 : decode cL_law 605 = .ok (.iload 4, 2) := by decide +kernel
theorem dL_law_607 : decode cL_law 607 = .ok (.iconst 1, 1) := by decide +kernel
theorem dL_law_608 : decode cL_law 608 = .ok (.iadd, 1) := by decide +kernel
theorem dL_law_609 : decode cL_law 609 = .ok (.iaload, 1) := by decide +kernel
theorem dL_law_610 : decode cL_law 610 = .ok (.aload_n 0, 1) := by decide +kernel
theorem dL_law_611 : decode cL_law 611 = .ok (.iload 4, 2) := by decide +kernel
theorem dL_law_613 : decode cL_law 613 = .ok (.iconst 2, 1) := by decide +kernel
theorem dL_law_614 : decode cL_law 614 = .ok (.iadd, 1) := by decide +kernel
theorem dL_law_615 : decode cL_law 615 = .ok (.iaload, 1) := by decide +kernel
theorem dL_law_616 : decode cL_law 616 = .ok (.invokevirtual 93, 3) := by decide +kernel
theorem dL_law_619 : decode cL_law 619 = .ok (.if_icmp .eq 549, 3) := by decide +kernel
theorem dL_law_622 : decode cL_law 622 = .ok (.iconst 0, 1) := by decide +kernel
theorem dL_law_623 : decode cL_law 623 = .ok (.ireturn, 1) := by decide +kernel
theorem dL_law_624 : decode cL_law 624 = .ok (.aload_n 1, 1) := by decide +kernel
theorem dL_law_625 : decode cL_law 625 = .ok (.aload_n 0, 1) := by decide +kernel
theorem dL_law_626 : decode cL_law 626 = .ok (.iload 4, 2) := by decide +kernel
theorem dL_law_628 : decode cL_law 628 = .ok (.iconst 1, 1) := by decide +kernel
theorem dL_law_629 : decode cL_law 629 = .ok (.iadd, 1) := by decide +kernel
theorem dL_law_630 : decode cL_law 630 = .ok (.iaload, 1) := by decide +kernel
theorem dL_law_631 : decode cL_law 631 = .ok (.aload_n 0, 1) := by decide +kernel
theorem dL_law_632 : decode cL_law 632 = .ok (.iload 4, 2) := by decide +kernel
theorem dL_law_634 : decode cL_law 634 = .ok (.iconst 2, 1) := by decide +kernel
theorem dL_law_635 : decode cL_law 635 = .ok (.iadd, 1) := by decide +kernel
theorem dL_law_636 : decode cL_law 636 = .ok (.iaload, 1) := by decide +kernel
theorem dL_law_637 : decode cL_law 637 = .ok (.aload_n 3, 1) := by decide +kernel
theorem dL_law_638 : decode cL_law 638 = .ok (.invokestatic 94, 3) := by decide +kernel
theorem dL_law_641 : decode cL_law 641 = .ok (.istore 5, 2) := by decide +kernel
theorem dL_law_643 : decode cL_law 643 = .ok (.aload_n 2, 1) := by decide +kernel
theorem dL_law_644 : decode cL_law 644 = .ok (.aload_n 0, 1) := by decide +kernel
theorem dL_law_645 : decode cL_law 645 = .ok (.iload 4, 2) := by decide +kernel
theorem dL_law_647 : decode cL_law 647 = .ok (.iconst 1, 1) := by decide +kernel
theorem dL_law_648 : decode cL_law 648 = .ok (.iadd, 1) := by decide +kernel
theorem dL_law_649 : decode cL_law 649 = .ok (.iaload, 1) := by decide +kernel
theorem dL_law_650 : decode cL_law 650 = .ok (.aload_n 0, 1) := by decide +kernel
theorem dL_law_651 : decode cL_law 651 = .ok (.iload 4, 2) := by decide +kernel
theorem dL_law_653 : decode cL_law 653 = .ok (.iconst 2, 1) := by decide +kernel
theorem dL_law_654 : decode cL_law 654 = .ok (.iadd, 1) := by decide +kernel
theorem dL_law_655 : decode cL_law 655 = .ok (.iaload, 1) := by decide +kernel
theorem dL_law_656 : decode cL_law 656 = .ok (.invokevirtual 96, 3) := by decide +kernel
theorem dL_law_659 : decode cL_law 659 = .ok (.istore 6, 2) := by decide +kernel
theorem dL_law_661 : decode cL_law 661 = .ok (.aload_n 2, 1) := by decide +kernel
theorem dL_law_662 : decode cL_law 662 = .ok (.invokevirtual 57, 3) := by decide +kernel
theorem dL_law_665 : decode cL_law 665 = .ok (.iload 5, 2) := by decide +kernel
theorem dL_law_667 : decode cL_law 667 = .ok (.if_icmp .eq 5, 3) := by decide +kernel
theorem dL_law_670 : decode cL_law 670 = .ok (.iconst 0, 1) := by decide +kernel
theorem dL_law_671 : decode cL_law 671 = .ok (.ireturn, 1) := by decide +kernel
theorem dL_law_672 : decode cL_law 672 = .ok (.iload 5, 2) := by decide +kernel
theorem dL_law_674 : decode cL_law 674 = .ok (.ifCond .ne 15, 3) := by decide +kernel
theorem dL_law_677 : decode cL_law 677 = .ok (.aload_n 3, 1) := by decide +kernel
theorem dL_law_678 : decode cL_law 678 = .ok (.iconst 0, 1) := by decide +kernel
theorem dL_law_679 : decode cL_law 679 = .ok (.laload, 1) := by decide +kernel
theorem dL_law_680 : decode cL_law 680 = .ok (.iload 6, 2) := by decide +kernel
theorem dL_law_682 : decode cL_law 682 = .ok (.i2l, 1) := by decide +kernel
theorem dL_law_683 : decode cL_law 683 = .ok (.lcmp, 1) := by decide +kernel
theorem dL_law_684 : decode cL_law 684 = .ok (.ifCond .eq 5, 3) := by decide +kernel
theorem dL_law_687 : decode cL_law 687 = .ok (.iconst 0, 1) := by decide +kernel
theorem dL_law_688 : decode cL_law 688 = .ok (.ireturn, 1) := by decide +kernel
theorem dL_law_689 : decode cL_law 689 = .ok (.goto 479, 3) := by decide +kernel
theorem dL_law_692 : decode cL_law 692 = .ok (.aload_n 1, 1) := by decide +kernel
theorem dL_law_693 : decode cL_law 693 = .ok (.aload_n 0, 1) := by decide +kernel
theorem dL_law_694 : decode cL_law 694 = .ok (.iload 4, 2) := by decide +kernel
theorem dL_law_696 : decode cL_law 696 = .ok (.iconst 1, 1) := by decide +kernel
theorem dL_law_697 : decode cL_law 697 = .ok (.iadd, 1) := by decide +kernel
theorem dL_law_698 : decode cL_law 698 = .ok (.iaload, 1) := by decide +kernel
theorem dL_law_699 : decode cL_law 699 = .ok (.aload_n 0, 1) := by decide +kernel
theorem dL_law_700 : decode cL_law 700 = .ok (.iload 4, 2) := by decide +kernel
theorem dL_law_702 : decode cL_law 702 = .ok (.iconst 2, 1) := by decide +kernel
theorem dL_law_703 : decode cL_law 703 = .ok (.iadd, 1) := by decide +kernel
theorem dL_law_704 : decode cL_law 704 = .ok (.iaload, 1) := by decide +kernel
theorem dL_law_705 : decode cL_law 705 = .ok (.aload_n 3, 1) := by decide +kernel
theorem dL_law_706 : decode cL_law 706 = .ok (.invokestatic 97, 3) := by decide +kernel
theorem dL_law_709 : decode cL_law 709 = .ok (.istore 5, 2) := by decide +kernel
theorem dL_law_711 : decode cL_law 711 = .ok (.aload_n 2, 1) := by decide +kernel
theorem dL_law_712 : decode cL_law 712 = .ok (.aload_n 0, 1) := by decide +kernel
theorem dL_law_713 : decode cL_law 713 = .ok (.iload 4, 2) := by decide +kernel
theorem dL_law_715 : decode cL_law 715 = .ok (.iconst 1, 1) := by decide +kernel
theorem dL_law_716 : decode cL_law 716 = .ok (.iadd, 1) := by decide +kernel
theorem dL_law_717 : decode cL_law 717 = .ok (.iaload, 1) := by decide +kernel
theorem dL_law_718 : decode cL_law 718 = .ok (.aload_n 0, 1) := by decide +kernel
theorem dL_law_719 : decode cL_law 719 = .ok (.iload 4, 2) := by decide +kernel
theorem dL_law_721 : decode cL_law 721 = .ok (.iconst 2, 1) := by decide +kernel
theorem dL_law_722 : decode cL_law 722 = .ok (.iadd, 1) := by decide +kernel
theorem dL_law_723 : decode cL_law 723 = .ok (.iaload, 1) := by decide +kernel
theorem dL_law_724 : decode cL_law 724 = .ok (.invokevirtual 99, 3) := by decide +kernel
theorem dL_law_727 : decode cL_law 727 = .ok (.istore 6, 2) := by decide +kernel
theorem dL_law_729 : decode cL_law 729 = .ok (.aload_n 2, 1) := by decide +kernel
theorem dL_law_730 : decode cL_law 730 = .ok (.invokevirtual 57, 3) := by decide +kernel
theorem dL_law_733 : decode cL_law 733 = .ok (.iload 5, 2) := by decide +kernel
theorem dL_law_735 : decode cL_law 735 = .ok (.if_icmp .eq 5, 3) := by decide +kernel
theorem dL_law_738 : decode cL_law 738 = .ok (.iconst 0, 1) := by decide +kernel
theorem dL_law_739 : decode cL_law 739 = .ok (.ireturn, 1) := by decide +kernel
theorem dL_law_740 : decode cL_law 740 = .ok (.iload 5, 2) := by decide +kernel
theorem dL_law_742 : decode cL_law 742 = .ok (.ifCond .ne 15, 3) := by decide +kernel
theorem dL_law_745 : decode cL_law 745 = .ok (.aload_n 3, 1) := by decide +kernel
theorem dL_law_746 : decode cL_law 746 = .ok (.iconst 0, 1) := by decide +kernel
theorem dL_law_747 : decode cL_law 747 = .ok (.laload, 1) := by decide +kernel
theorem dL_law_748 : decode cL_law 748 = .ok (.iload 6, 2) := by decide +kernel
theorem dL_law_750 : decode cL_law 750 = .ok (.i2l, 1) := by decide +kernel
theorem dL_law_751 : decode cL_law 751 = .ok (.lcmp, 1) := by decide +kernel
theorem dL_law_752 : decode cL_law 752 = .ok (.ifCond .eq 5, 3) := by decide +kernel
theorem dL_law_755 : decode cL_law 755 = .ok (.iconst 0, 1) := by decide +kernel
theorem dL_law_756 : decode cL_law 756 = .ok (.ireturn, 1) := by decide +kernel
theorem dL_law_757 : decode cL_law 757 = .ok (.goto 411, 3) := by decide +kernel
theorem dL_law_760 : decode cL_law 760 = .ok (.aload_n 1, 1) := by decide +kernel
theorem dL_law_761 : decode cL_law 761 = .ok (.aload_n 0, 1) := by decide +kernel
theorem dL_law_762 : decode cL_law 762 = .ok (.iload 4, 2) := by decide +kernel
theorem dL_law_764 : decode cL_law 764 = .ok (.iconst 1, 1) := by decide +kernel
theorem dL_law_765 : decode cL_law 765 = .ok (.iadd, 1) := by decide +kernel
theorem dL_law_766 : decode cL_law 766 = .ok (.iaload, 1) := by decide +kernel
theorem dL_law_767 : decode cL_law 767 = .ok (.aload_n 0, 1) := by decide +kernel
theorem dL_law_768 : decode cL_law 768 = .ok (.iload 4, 2) := by decide +kernel
theorem dL_law_770 : decode cL_law 770 = .ok (.iconst 2, 1) := by decide +kernel
theorem dL_law_771 : decode cL_law 771 = .ok (.iadd, 1) := by decide +kernel
theorem dL_law_772 : decode cL_law 772 = .ok (.iaload, 1) := by decide +kernel
theorem dL_law_773 : decode cL_law 773 = .ok (.invokevirtual 100, 3) := by decide +kernel
theorem dL_law_776 : decode cL_law 776 = .ok (.aload_n 2, 1) := by decide +kernel
theorem dL_law_777 : decode cL_law 777 = .ok (.aload_n 0, 1) := by decide +kernel
theorem dL_law_778 : decode cL_law 778 = .ok (.iload 4, 2) := by decide +kernel
theorem dL_law_780 : decode cL_law 780 = .ok (.iconst 1, 1) := by decide +kernel
theorem dL_law_781 : decode cL_law 781 = .ok (.iadd, 1) := by decide +kernel
theorem dL_law_782 : decode cL_law 782 = .ok (.iaload, 1) := by decide +kernel
theorem dL_law_783 : decode cL_law 783 = .ok (.aload_n 0, 1) := by decide +kernel
theorem dL_law_784 : decode cL_law 784 = .ok (.iload 4, 2) := by decide +kernel
theorem dL_law_786 : decode cL_law 786 = .ok (.iconst 2, 1) := by decide +kernel
theorem dL_law_787 : decode cL_law 787 = .ok (.iadd, 1) := by decide +kernel
theorem dL_law_788 : decode cL_law 788 = .ok (.iaload, 1) := by decide +kernel
theorem dL_law_789 : decode cL_law 789 = .ok (.invokevirtual 103, 3) := by decide +kernel
theorem dL_law_792 : decode cL_law 792 = .ok (.if_icmp .eq 376, 3) := by decide +kernel
theorem dL_law_795 : decode cL_law 795 = .ok (.iconst 0, 1) := by decide +kernel
theorem dL_law_796 : decode cL_law 796 = .ok (.ireturn, 1) := by decide +kernel
theorem dL_law_797 : decode cL_law 797 = .ok (.aload_n 1, 1) := by decide +kernel
theorem dL_law_798 : decode cL_law 798 = .ok (.aload_n 0, 1) := by decide +kernel
theorem dL_law_799 : decode cL_law 799 = .ok (.iload 4, 2) := by decide +kernel
theorem dL_law_801 : decode cL_law 801 = .ok (.iconst 1, 1) := by decide +kernel
theorem dL_law_802 : decode cL_law 802 = .ok (.iadd, 1) := by decide +kernel
theorem dL_law_803 : decode cL_law 803 = .ok (.iaload, 1) := by decide +kernel
theorem dL_law_804 : decode cL_law 804 = .ok (.aload_n 0, 1) := by decide +kernel
theorem dL_law_805 : decode cL_law 805 = .ok (.iload 4, 2) := by decide +kernel
theorem dL_law_807 : decode cL_law 807 = .ok (.iconst 2, 1) := by decide +kernel
theorem dL_law_808 : decode cL_law 808 = .ok (.iadd, 1) := by decide +kernel
theorem dL_law_809 : decode cL_law 809 = .ok (.iaload, 1) := by decide +kernel
theorem dL_law_810 : decode cL_law 810 = .ok (.aload_n 0, 1) := by decide +kernel
theorem dL_law_811 : decode cL_law 811 = .ok (.iload 4, 2) := by decide +kernel
theorem dL_law_813 : decode cL_law 813 = .ok (.iconst 3, 1) := by decide +kernel
theorem dL_law_814 : decode cL_law 814 = .ok (.iadd, 1) := by decide +kernel
theorem dL_law_815 : decode cL_law 815 = .ok (.iaload, 1) := by decide +kernel
theorem dL_law_816 : decode cL_law 816 = .ok (.invokevirtual 104, 3) := by decide +kernel
theorem dL_law_819 : decode cL_law 819 = .ok (.aload_n 2, 1) := by decide +kernel
theorem dL_law_820 : decode cL_law 820 = .ok (.aload_n 0, 1) := by decide +kernel
theorem dL_law_821 : decode cL_law 821 = .ok (.iload 4, 2) := by decide +kernel
theorem dL_law_823 : decode cL_law 823 = .ok (.iconst 1, 1) := by decide +kernel
theorem dL_law_824 : decode cL_law 824 = .ok (.iadd, 1) := by decide +kernel
theorem dL_law_825 : decode cL_law 825 = .ok (.iaload, 1) := by decide +kernel
theorem dL_law_826 : decode cL_law 826 = .ok (.aload_n 0, 1) := by decide +kernel
theorem dL_law_827 : decode cL_law 827 = .ok (.iload 4, 2) := by decide +kernel
theorem dL_law_829 : decode cL_law 829 = .ok (.iconst 2, 1) := by decide +kernel
theorem dL_law_830 : decode cL_law 830 = .ok (.iadd, 1) := by decide +kernel
theorem dL_law_831 : decode cL_law 831 = .ok (.iaload, 1) := by decide +kernel
theorem dL_law_832 : decode cL_law 832 = .ok (.aload_n 0, 1) := by decide +kernel
theorem dL_law_833 : decode cL_law 833 = .ok (.iload 4, 2) := by decide +kernel
theorem dL_law_835 : decode cL_law 835 = .ok (.iconst 3, 1) := by decide +kernel
theorem dL_law_836 : decode cL_law 836 = .ok (.iadd, 1) := by decide +kernel
theorem dL_law_837 : decode cL_law 837 = .ok (.iaload, 1) := by decide +kernel
theorem dL_law_838 : decode cL_law 838 = .ok (.invokevirtual 107, 3) := by decide +kernel
theorem dL_law_841 : decode cL_law 841 = .ok (.if_icmp .eq 327, 3) := by decide +kernel
theorem dL_law_844 : decode cL_law 844 = .ok (.iconst 0, 1) := by decide +kernel
theorem dL_law_845 : decode cL_law 845 = .ok (.ireturn, 1) := by decide +kernel
theorem dL_law_846 : decode cL_law 846 = .ok (.aload_n 1, 1) := by decide +kernel
theorem dL_law_847 : decode cL_law 847 = .ok (.aload_n 0, 1) := by decide +kernel
theorem dL_law_848 : decode cL_law 848 = .ok (.iload 4, 2) := by decide +kernel
theorem dL_law_850 : decode cL_law 850 = .ok (.iconst 1, 1) := by decide +kernel
theorem dL_law_851 : decode cL_law 851 = .ok (.iadd, 1) := by decide +kernel
theorem dL_law_852 : decode cL_law 852 = .ok (.iaload, 1) := by decide +kernel
theorem dL_law_853 : decode cL_law 853 = .ok (.aload_n 0, 1) := by decide +kernel
theorem dL_law_854 : decode cL_law 854 = .ok (.iload 4, 2) := by decide +kernel
theorem dL_law_856 : decode cL_law 856 = .ok (.iconst 2, 1) := by decide +kernel
theorem dL_law_857 : decode cL_law 857 = .ok (.iadd, 1) := by decide +kernel
theorem dL_law_858 : decode cL_law 858 = .ok (.iaload, 1) := by decide +kernel
theorem dL_law_859 : decode cL_law 859 = .ok (.aload_n 0, 1) := by decide +kernel
theorem dL_law_860 : decode cL_law 860 = .ok (.iload 4, 2) := by decide +kernel
theorem dL_law_862 : decode cL_law 862 = .ok (.iconst 3, 1) := by decide +kernel
theorem dL_law_863 : decode cL_law 863 = .ok (.iadd, 1) := by decide +kernel
theorem dL_law_864 : decode cL_law 864 = .ok (.iaload, 1) := by decide +kernel
theorem dL_law_865 : decode cL_law 865 = .ok (.invokevirtual 108, 3) := by decide +kernel
theorem dL_law_868 : decode cL_law 868 = .ok (.aload_n 2, 1) := by decide +kernel
theorem dL_law_869 : decode cL_law 869 = .ok (.aload_n 0, 1) := by decide +kernel
theorem dL_law_870 : decode cL_law 870 = .ok (.iload 4, 2) := by decide +kernel
theorem dL_law_872 : decode cL_law 872 = .ok (.iconst 1, 1) := by decide +kernel
theorem dL_law_873 : decode cL_law 873 = .ok (.iadd, 1) := by decide +kernel
theorem dL_law_874 : decode cL_law 874 = .ok (.iaload, 1) := by decide +kernel
theorem dL_law_875 : decode cL_law 875 = .ok (.aload_n 0, 1) := by decide +kernel
theorem dL_law_876 : decode cL_law 876 = .ok (.iload 4, 2) := by decide +kernel
theorem dL_law_878 : decode cL_law 878 = .ok (.iconst 2, 1) := by decide +kernel
theorem dL_law_879 : decode cL_law 879 = .ok (.iadd, 1) := by decide +kernel
theorem dL_law_880 : decode cL_law 880 = .ok (.iaload, 1) := by decide +kernel
theorem dL_law_881 : decode cL_law 881 = .ok (.aload_n 0, 1) := by decide +kernel
theorem dL_law_882 : decode cL_law 882 = .ok (.iload 4, 2) := by decide +kernel
theorem dL_law_884 : decode cL_law 884 = .ok (.iconst 3, 1) := by decide +kernel
theorem dL_law_885 : decode cL_law 885 = .ok (.iadd, 1) := by decide +kernel
theorem dL_law_886 : decode cL_law 886 = .ok (.iaload, 1) := by decide +kernel
theorem dL_law_887 : decode cL_law 887 = .ok (.invokevirtual 111, 3) := by decide +kernel
theorem dL_law_890 : decode cL_law 890 = .ok (.if_icmp .eq 278, 3) := by decide +kernel
theorem dL_law_893 : decode cL_law 893 = .ok (.iconst 0, 1) := by decide +kernel
theorem dL_law_894 : decode cL_law 894 = .ok (.ireturn, 1) := by decide +kernel
theorem dL_law_895 : decode cL_law 895 = .ok (.aload_n 1, 1) := by decide +kernel
theorem dL_law_896 : decode cL_law 896 = .ok (.aload_n 0, 1) := by decide +kernel
theorem dL_law_897 : decode cL_law 897 = .ok (.iload 4, 2) := by decide +kernel
theorem dL_law_899 : decode cL_law 899 = .ok (.iconst 1, 1) := by decide +kernel
theorem dL_law_900 : decode cL_law 900 = .ok (.iadd, 1) := by decide +kernel
theorem dL_law_901 : decode cL_law 901 = .ok (.iaload, 1) := by decide +kernel
theorem dL_law_902 : decode cL_law 902 = .ok (.aload_n 0, 1) := by decide +kernel
theorem dL_law_903 : decode cL_law 903 = .ok (.iload 4, 2) := by decide +kernel
theorem dL_law_905 : decode cL_law 905 = .ok (.iconst 2, 1) := by decide +kernel
theorem dL_law_906 : decode cL_law 906 = .ok (.iadd, 1) := by decide +kernel
theorem dL_law_907 : decode cL_law 907 = .ok (.iaload, 1) := by decide +kernel
theorem dL_law_908 : decode cL_law 908 = .ok (.aload_n 0, 1) := by decide +kernel
theorem dL_law_909 : decode cL_law 909 = .ok (.iload 4, 2) := by decide +kernel
theorem dL_law_911 : decode cL_law 911 = .ok (.iconst 3, 1) := by decide +kernel
theorem dL_law_912 : decode cL_law 912 = .ok (.iadd, 1) := by decide +kernel
theorem dL_law_913 : decode cL_law 913 = .ok (.iaload, 1) := by decide +kernel
theorem dL_law_914 : decode cL_law 914 = .ok (.invokevirtual 112, 3) := by decide +kernel
theorem dL_law_917 : decode cL_law 917 = .ok (.aload_n 2, 1) := by decide +kernel
theorem dL_law_918 : decode cL_law 918 = .ok (.aload_n 0, 1) := by decide +kernel
theorem dL_law_919 : decode cL_law 919 = .ok (.iload 4, 2) := by decide +kernel
theorem dL_law_921 : decode cL_law 921 = .ok (.iconst 1, 1) := by decide +kernel
theorem dL_law_922 : decode cL_law 922 = .ok (.iadd, 1) := by decide +kernel
theorem dL_law_923 : decode cL_law 923 = .ok (.iaload, 1) := by decide +kernel
theorem dL_law_924 : decode cL_law 924 = .ok (.aload_n 0, 1) := by decide +kernel
theorem dL_law_925 : decode cL_law 925 = .ok (.iload 4, 2) := by decide +kernel
theorem dL_law_927 : decode cL_law 927 = .ok (.iconst 2, 1) := by decide +kernel
theorem dL_law_928 : decode cL_law 928 = .ok (.iadd, 1) := by decide +kernel
theorem dL_law_929 : decode cL_law 929 = .ok (.iaload, 1) := by decide +kernel
theorem dL_law_930 : decode cL_law 930 = .ok (.aload_n 0, 1) := by decide +kernel
theorem dL_law_931 : decode cL_law 931 = .ok (.iload 4, 2) := by decide +kernel
theorem dL_law_933 : decode cL_law 933 = .ok (.iconst 3, 1) := by decide +kernel
theorem dL_law_934 : decode cL_law 934 = .ok (.iadd, 1) := by decide +kernel
theorem dL_law_935 : decode cL_law 935 = .ok (.iaload, 1) := by decide +kernel
theorem dL_law_936 : decode cL_law 936 = .ok (.invokevirtual 115, 3) := by decide +kernel
theorem dL_law_939 : decode cL_law 939 = .ok (.if_icmp .eq 229, 3) := by decide +kernel
theorem dL_law_942 : decode cL_law 942 = .ok (.iconst 0, 1) := by decide +kernel
theorem dL_law_943 : decode cL_law 943 = .ok (.ireturn, 1) := by decide +kernel
theorem dL_law_944 : decode cL_law 944 = .ok (.aload_n 1, 1) := by decide +kernel
theorem dL_law_945 : decode cL_law 945 = .ok (.aload_n 0, 1) := by decide +kernel
theorem dL_law_946 : decode cL_law 946 = .ok (.iload 4, 2) := by decide +kernel
theorem dL_law_948 : decode cL_law 948 = .ok (.iconst 1, 1) := by decide +kernel
theorem dL_law_949 : decode cL_law 949 = .ok (.iadd, 1) := by decide +kernel
theorem dL_law_950 : decode cL_law 950 = .ok (.iaload, 1) := by decide +kernel
theorem dL_law_951 : decode cL_law 951 = .ok (.aload_n 0, 1) := by decide +kernel
theorem dL_law_952 : decode cL_law 952 = .ok (.iload 4, 2) := by decide +kernel
theorem dL_law_954 : decode cL_law 954 = .ok (.iconst 2, 1) := by decide +kernel
theorem dL_law_955 : decode cL_law 955 = .ok (.iadd, 1) := by decide +kernel
theorem dL_law_956 : decode cL_law 956 = .ok (.iaload, 1) := by decide +kernel
theorem dL_law_957 : decode cL_law 957 = .ok (.aload_n 0, 1) := by decide +kernel
theorem dL_law_958 : decode cL_law 958 = .ok (.iload 4, 2) := by decide +kernel
theorem dL_law_960 : decode cL_law 960 = .ok (.iconst 3, 1) := by decide +kernel
theorem dL_law_961 : decode cL_law 961 = .ok (.iadd, 1) := by decide +kernel
theorem dL_law_962 : decode cL_law 962 = .ok (.iaload, 1) := by decide +kernel
theorem dL_law_963 : decode cL_law 963 = .ok (.invokevirtual 116, 3) := by decide +kernel
theorem dL_law_966 : decode cL_law 966 = .ok (.aload_n 2, 1) := by decide +kernel
theorem dL_law_967 : decode cL_law 967 = .ok (.aload_n 0, 1) := by decide +kernel
theorem dL_law_968 : decode cL_law 968 = .ok (.iload 4, 2) := by decide +kernel
theorem dL_law_970 : decode cL_law 970 = .ok (.iconst 1, 1) := by decide +kernel
theorem dL_law_971 : decode cL_law 971 = .ok (.iadd, 1) := by decide +kernel
theorem dL_law_972 : decode cL_law 972 = .ok (.iaload, 1) := by decide +kernel
theorem dL_law_973 : decode cL_law 973 = .ok (.aload_n 0, 1) := by decide +kernel
theorem dL_law_974 : decode cL_law 974 = .ok (.iload 4, 2) := by decide +kernel
theorem dL_law_976 : decode cL_law 976 = .ok (.iconst 2, 1) := by decide +kernel
theorem dL_law_977 : decode cL_law 977 = .ok (.iadd, 1) := by decide +kernel
theorem dL_law_978 : decode cL_law 978 = .ok (.iaload, 1) := by decide +kernel
theorem dL_law_979 : decode cL_law 979 = .ok (.aload_n 0, 1) := by decide +kernel
theorem dL_law_980 : decode cL_law 980 = .ok (.iload 4, 2) := by decide +kernel
theorem dL_law_982 : decode cL_law 982 = .ok (.iconst 3, 1) := by decide +kernel
theorem dL_law_983 : decode cL_law 983 = .ok (.iadd, 1) := by decide +kernel
theorem dL_law_984 : decode cL_law 984 = .ok (.iaload, 1) := by decide +kernel
theorem dL_law_985 : decode cL_law 985 = .ok (.invokevirtual 119, 3) := by decide +kernel
theorem dL_law_988 : decode cL_law 988 = .ok (.if_icmp .eq 180, 3) := by decide +kernel
theorem dL_law_991 : decode cL_law 991 = .ok (.iconst 0, 1) := by decide +kernel
theorem dL_law_992 : decode cL_law 992 = .ok (.ireturn, 1) := by decide +kernel
theorem dL_law_993 : decode cL_law 993 = .ok (.aload_n 1, 1) := by decide +kernel
theorem dL_law_994 : decode cL_law 994 = .ok (.aload_n 0, 1) := by decide +kernel
theorem dL_law_995 : decode cL_law 995 = .ok (.iload 4, 2) := by decide +kernel
theorem dL_law_997 : decode cL_law 997 = .ok (.iconst 1, 1) := by decide +kernel
theorem dL_law_998 : decode cL_law 998 = .ok (.iadd, 1) := by decide +kernel
theorem dL_law_999 : decode cL_law 999 = .ok (.iaload, 1) := by decide +kernel
theorem dL_law_1000 : decode cL_law 1000 = .ok (.aload_n 3, 1) := by decide +kernel
theorem dL_law_1001 : decode cL_law 1001 = .ok (.invokestatic 120, 3) := by decide +kernel
theorem dL_law_1004 : decode cL_law 1004 = .ok (.istore 5, 2) := by decide +kernel
theorem dL_law_1006 : decode cL_law 1006 = .ok (.aload_n 2, 1) := by decide +kernel
theorem dL_law_1007 : decode cL_law 1007 = .ok (.aload_n 0, 1) := by decide +kernel
theorem dL_law_1008 : decode cL_law 1008 = .ok (.iload 4, 2) := by decide +kernel
theorem dL_law_1010 : decode cL_law 1010 = .ok (.iconst 1, 1) := by decide +kernel
theorem dL_law_1011 : decode cL_law 1011 = .ok (.iadd, 1) := by decide +kernel
theorem dL_law_1012 : decode cL_law 1012 = .ok (.iaload, 1) := by decide +kernel
theorem dL_law_1013 : decode cL_law 1013 = .ok (.invokevirtual 122, 3) := by decide +kernel
theorem dL_law_1016 : decode cL_law 1016 = .ok (.istore 6, 2) := by decide +kernel
theorem dL_law_1018 : decode cL_law 1018 = .ok (.aload_n 2, 1) := by decide +kernel
theorem dL_law_1019 : decode cL_law 1019 = .ok (.invokevirtual 57, 3) := by decide +kernel
theorem dL_law_1022 : decode cL_law 1022 = .ok (.iload 5, 2) := by decide +kernel
theorem dL_law_1024 : decode cL_law 1024 = .ok (.if_icmp .eq 5, 3) := by decide +kernel
theorem dL_law_1027 : decode cL_law 1027 = .ok (.iconst 0, 1) := by decide +kernel
theorem dL_law_1028 : decode cL_law 1028 = .ok (.ireturn, 1) := by decide +kernel
theorem dL_law_1029 : decode cL_law 1029 = .ok (.iload 5, 2) := by decide +kernel
theorem dL_law_1031 : decode cL_law 1031 = .ok (.ifCond .ne 15, 3) := by decide +kernel
theorem dL_law_1034 : decode cL_law 1034 = .ok (.aload_n 3, 1) := by decide +kernel
theorem dL_law_1035 : decode cL_law 1035 = .ok (.iconst 0, 1) := by decide +kernel
theorem dL_law_1036 : decode cL_law 1036 = .ok (.laload, 1) := by decide +kernel
theorem dL_law_1037 : decode cL_law 1037 = .ok (.iload 6, 2) := by decide +kernel
theorem dL_law_1039 : decode cL_law 1039 = .ok (.i2l, 1) := by decide +kernel
theorem dL_law_1040 : decode cL_law 1040 = .ok (.lcmp, 1) := by decide +kernel
theorem dL_law_1041 : decode cL_law 1041 = .ok (.ifCond .eq 5, 3) := by decide +kernel
theorem dL_law_1044 : decode cL_law 1044 = .ok (.iconst 0, 1) := by decide +kernel
theorem dL_law_1045 : decode cL_law 1045 = .ok (.ireturn, 1) := by decide +kernel
theorem dL_law_1046 : decode cL_law 1046 = .ok (.goto 122, 3) := by decide +kernel
theorem dL_law_1049 : decode cL_law 1049 = .ok (.aload_n 1, 1) := by decide +kernel
theorem dL_law_1050 : decode cL_law 1050 = .ok (.aload_n 0, 1) := by decide +kernel
theorem dL_law_1051 : decode cL_law 1051 = .ok (.iload 4, 2) := by decide +kernel
theorem dL_law_1053 : decode cL_law 1053 = .ok (.iconst 1, 1) := by decide +kernel
theorem dL_law_1054 : decode cL_law 1054 = .ok (.iadd, 1) := by decide +kernel
theorem dL_law_1055 : decode cL_law 1055 = .ok (.iaload, 1) := by decide +kernel
theorem dL_law_1056 : decode cL_law 1056 = .ok (.aload_n 0, 1) := by decide +kernel
theorem dL_law_1057 : decode cL_law 1057 = .ok (.iload 4, 2) := by decide +kernel
theorem dL_law_1059 : decode cL_law 1059 = .ok (.iconst 2, 1) := by decide +kernel
theorem dL_law_1060 : decode cL_law 1060 = .ok (.iadd, 1) := by decide +kernel
theorem dL_law_1061 : decode cL_law 1061 = .ok (.iaload, 1) := by decide +kernel
theorem dL_law_1062 : decode cL_law 1062 = .ok (.aload_n 3, 1) := by decide +kernel
theorem dL_law_1063 : decode cL_law 1063 = .ok (.invokestatic 123, 3) := by decide +kernel
theorem dL_law_1066 : decode cL_law 1066 = .ok (.istore 5, 2) := by decide +kernel
theorem dL_law_1068 : decode cL_law 1068 = .ok (.aload_n 2, 1) := by decide +kernel
theorem dL_law_1069 : decode cL_law 1069 = .ok (.aload_n 0, 1) := by decide +kernel
theorem dL_law_1070 : decode cL_law 1070 = .ok (.iload 4, 2) := by decide +kernel
theorem dL_law_1072 : decode cL_law 1072 = .ok (.iconst 1, 1) := by decide +kernel
theorem dL_law_1073 : decode cL_law 1073 = .ok (.iadd, 1) := by decide +kernel
theorem dL_law_1074 : decode cL_law 1074 = .ok (.iaload, 1) := by decide +kernel
theorem dL_law_1075 : decode cL_law 1075 = .ok (.aload_n 0, 1) := by decide +kernel
theorem dL_law_1076 : decode cL_law 1076 = .ok (.iload 4, 2) := by decide +kernel
theorem dL_law_1078 : decode cL_law 1078 = .ok (.iconst 2, 1) := by decide +kernel
theorem dL_law_1079 : decode cL_law 1079 = .ok (.iadd, 1) := by decide +kernel
theorem dL_law_1080 : decode cL_law 1080 = .ok (.iaload, 1) := by decide +kernel
theorem dL_law_1081 : decode cL_law 1081 = .ok (.invokevirtual 125, 3) := by decide +kernel
theorem dL_law_1084 : decode cL_law 1084 = .ok (.istore 6, 2) := by decide +kernel
theorem dL_law_1086 : decode cL_law 1086 = .ok (.aload_n 2, 1) := by decide +kernel
theorem dL_law_1087 : decode cL_law 1087 = .ok (.invokevirtual 57, 3) := by decide +kernel
theorem dL_law_1090 : decode cL_law 1090 = .ok (.iload 5, 2) := by decide +kernel
theorem dL_law_1092 : decode cL_law 1092 = .ok (.if_icmp .eq 5, 3) := by decide +kernel
theorem dL_law_1095 : decode cL_law 1095 = .ok (.iconst 0, 1) := by decide +kernel
theorem dL_law_1096 : decode cL_law 1096 = .ok (.ireturn, 1) := by decide +kernel
theorem dL_law_1097 : decode cL_law 1097 = .ok (.iload 5, 2) := by decide +kernel
theorem dL_law_1099 : decode cL_law 1099 = .ok (.ifCond .ne 15, 3) := by decide +kernel
theorem dL_law_1102 : decode cL_law 1102 = .ok (.aload_n 3, 1) := by decide +kernel
theorem dL_law_1103 : decode cL_law 1103 = .ok (.iconst 0, 1) := by decide +kernel
theorem dL_law_1104 : decode cL_law 1104 = .ok (.laload, 1) := by decide +kernel
theorem dL_law_1105 : decode cL_law 1105 = .ok (.iload 6, 2) := by decide +kernel
theorem dL_law_1107 : decode cL_law 1107 = .ok (.i2l, 1) := by decide +kernel
theorem dL_law_1108 : decode cL_law 1108 = .ok (.lcmp, 1) := by decide +kernel
theorem dL_law_1109 : decode cL_law 1109 = .ok (.ifCond .eq 5, 3) := by decide +kernel
theorem dL_law_1112 : decode cL_law 1112 = .ok (.iconst 0, 1) := by decide +kernel
theorem dL_law_1113 : decode cL_law 1113 = .ok (.ireturn, 1) := by decide +kernel
theorem dL_law_1114 : decode cL_law 1114 = .ok (.goto 54, 3) := by decide +kernel
theorem dL_law_1117 : decode cL_law 1117 = .ok (.aload_n 1, 1) := by decide +kernel
theorem dL_law_1118 : decode cL_law 1118 = .ok (.aload_n 0, 1) := by decide +kernel
theorem dL_law_1119 : decode cL_law 1119 = .ok (.iload 4, 2) := by decide +kernel
theorem dL_law_1121 : decode cL_law 1121 = .ok (.iconst 1, 1) := by decide +kernel
theorem dL_law_1122 : decode cL_law 1122 = .ok (.iadd, 1) := by decide +kernel
theorem dL_law_1123 : decode cL_law 1123 = .ok (.iaload, 1) := by decide +kernel
theorem dL_law_1124 : decode cL_law 1124 = .ok (.invokevirtual 126, 3) := by decide +kernel
theorem dL_law_1127 : decode cL_law 1127 = .ok (.aload_n 2, 1) := by decide +kernel
theorem dL_law_1128 : decode cL_law 1128 = .ok (.aload_n 0, 1) := by decide +kernel
theorem dL_law_1129 : decode cL_law 1129 = .ok (.iload 4, 2) := by decide +kernel
theorem dL_law_1131 : decode cL_law 1131 = .ok (.iconst 1, 1) := by decide +kernel
theorem dL_law_1132 : decode cL_law 1132 = .ok (.iadd, 1) := by decide +kernel
theorem dL_law_1133 : decode cL_law 1133 = .ok (.iaload, 1) := by decide +kernel
theorem dL_law_1134 : decode cL_law 1134 = .ok (.invokevirtual 129, 3) := by decide +kernel
theorem dL_law_1137 : decode cL_law 1137 = .ok (.if_icmp .eq 31, 3) := by decide +kernel
theorem dL_law_1140 : decode cL_law 1140 = .ok (.iconst 0, 1) := by decide +kernel
theorem dL_law_1141 : decode cL_law 1141 = .ok (.ireturn, 1) := by decide +kernel
theorem dL_law_1142 : decode cL_law 1142 = .ok (.aload_n 1, 1) := by decide +kernel
theorem dL_law_1143 : decode cL_law 1143 = .ok (.invokevirtual 130, 3) := by decide +kernel
theorem dL_law_1146 : decode cL_law 1146 = .ok (.aload_n 2, 1) := by decide +kernel
theorem dL_law_1147 : decode cL_law 1147 = .ok (.invokevirtual 134, 3) := by decide +kernel
theorem dL_law_1150 : decode cL_law 1150 = .ok (.if_icmp .eq 18, 3) := by decide +kernel
theorem dL_law_1153 : decode cL_law 1153 = .ok (.iconst 0, 1) := by decide +kernel
theorem dL_law_1154 : decode cL_law 1154 = .ok (.ireturn, 1) := by decide +kernel
theorem dL_law_1155 : decode cL_law 1155 = .ok (.aload_n 1, 1) := by decide +kernel
theorem dL_law_1156 : decode cL_law 1156 = .ok (.invokevirtual 135, 3) := by decide +kernel
theorem dL_law_1159 : decode cL_law 1159 = .ok (.aload_n 2, 1) := by decide +kernel
theorem dL_law_1160 : decode cL_law 1160 = .ok (.invokevirtual 138, 3) := by decide +kernel
theorem dL_law_1163 : decode cL_law 1163 = .ok (.if_icmp .eq 5, 3) := by decide +kernel
theorem dL_law_1166 : decode cL_law 1166 = .ok (.iconst 0, 1) := by decide +kernel
theorem dL_law_1167 : decode cL_law 1167 = .ok (.ireturn, 1) := by decide +kernel
theorem dL_law_1168 : decode cL_law 1168 = .ok (.iinc 4 6, 3) := by decide +kernel
theorem dL_law_1171 : decode cL_law 1171 = .ok (.goto (-1148), 3) := by decide +kernel
theorem dL_law_1174 : decode cL_law 1174 = .ok (.iconst 1, 1) := by decide +kernel
theorem dL_law_1175 : decode cL_law 1175 = .ok (.ireturn, 1) := by decide +kernel
end
section
/-! ===== the pure memory, the layout, the world of a system whose cells stand still ===== -/
abbrev Mem : Type := Nat → Nat → Int32
def stM (σ : Mem) (k j : Nat) (v : Int32) : Mem := fun a b => if a = k then (if b = j then v else σ a b) else σ a b
theorem stM_row (σ : Mem) (k j : Nat) (v : Int32) : (stM σ k j v) k = upd (σ k) j v := by
  funext b
  simp [stM, upd]
theorem stM_ne {σ : Mem} {k j a : Nat} {v : Int32} (h : a ≠ k) : (stM σ k j v) a = σ a := by
  funext b
  simp [stM, h]
/-- a row of a memory in place of another -/
def rwM (σ : Mem) (k : Nat) (f : Nat → Int32) : Mem := fun a => if a = k then f else σ a
theorem rwM_row (σ : Mem) (k : Nat) (f : Nat → Int32) : (rwM σ k f) k = f := by simp [rwM]
theorem rwM_ne {σ : Mem} {k a : Nat} {f : Nat → Int32} (h : a ≠ k) : (rwM σ k f) a = σ a := by simp [rwM, h]
abbrev Lay : Type := Nat × (Nat → Nat × Nat × Nat) × (Nat → Nat → Option (Bool × Nat))
def fvY (Y : Lay) (ad : Nat → Nat) (σ : Mem) (k ci j : Nat) : Value := match Y.2.2 ci j with
  | none => .int (σ k j)
  | some (true, o) => .ref (ad (k + o))
  | some (false, q) => .ref (ad q)
def cellY (Y : Lay) (dA : Nat → ClassId) (ad : Nat → Nat) (σ : Mem) (k : Nat) : va_E := match Y.2.1 k with
  | (0, ci, n) => .inr (ci, (List.range n).map (fvY Y ad σ k ci))
  | (1, n, _) => .inl (dA 0, n, .inl (σ k))
  | (2, n, _) => .inl (dA 1, n, .inl (σ k))
  | (3, n, o) => .inl (dA 2, n, .inr (.inr (.inr (.inr (fun i => some (ad (k + o + 2 * i)))))))
  | (_, n, o) => .inl (dA 3, n, .inr (.inr (.inr (.inr (fun i => some (ad (k + o + i)))))))
def wsY (Y : Lay) (dA : Nat → ClassId) (ad : Nat → Nat) (σ : Mem) : va_W := (List.range Y.1).map (fun k => (ad k, cellY Y dA ad σ k))
def tysY (dA : Nat → ClassId) : List (ClassId × FieldType) := [(dA 0, .int), (dA 1, .boolean), (dA 2, .object "StageHouse$Slot"), (dA 3, .object "StageHouse$Actor")]
theorem wsY_get {Y : Lay} {dA : Nat → ClassId} {ad : Nat → Nat} {σ : Mem} {k : Nat} (h : k < Y.1) : (wsY Y dA ad σ)[k]? = some (ad k, cellY Y dA ad σ k) := by
  simp [wsY, h]
theorem wsY_len {Y : Lay} {dA : Nat → ClassId} {ad : Nat → Nat} {σ : Mem} : (wsY Y dA ad σ).length = Y.1 := by simp [wsY]
theorem wsY_inv {Y : Lay} {dA : Nat → ClassId} {ad : Nat → Nat} {σ : Mem} {k : Nat} {q : Nat × va_E} (h : (wsY Y dA ad σ)[k]? = some q) : k < Y.1 ∧ q = (ad k, cellY Y dA ad σ k) := by
  have hk : k < Y.1 := by
    have := (List.getElem?_eq_some_iff.mp h).1
    rwa [wsY_len] at this
  rw [wsY_get hk] at h
  exact ⟨hk, (Option.some.inj h).symm⟩
theorem cellY_obj {Y : Lay} {dA : Nat → ClassId} {ad : Nat → Nat} {σ : Mem} {k ci n : Nat} (h : Y.2.1 k = (0, ci, n)) : cellY Y dA ad σ k = .inr (ci, (List.range n).map (fvY Y ad σ k ci)) := by
  simp [cellY, h]
theorem cellY_int {Y : Lay} {dA : Nat → ClassId} {ad : Nat → Nat} {σ : Mem} {k n o : Nat} (h : Y.2.1 k = (1, n, o)) : cellY Y dA ad σ k = .inl (dA 0, n, .inl (σ k)) := by
  simp [cellY, h]
theorem cellY_bool {Y : Lay} {dA : Nat → ClassId} {ad : Nat → Nat} {σ : Mem} {k n o : Nat} (h : Y.2.1 k = (2, n, o)) : cellY Y dA ad σ k = .inl (dA 1, n, .inl (σ k)) := by
  simp [cellY, h]
theorem cellY_r3 {Y : Lay} {dA : Nat → ClassId} {ad : Nat → Nat} {σ : Mem} {k n o : Nat} (h : Y.2.1 k = (3, n, o)) : cellY Y dA ad σ k = .inl (dA 2, n, .inr (.inr (.inr (.inr (fun i => some (ad (k + o + 2 * i))))))) := by
  simp [cellY, h]
theorem cellY_r4 {Y : Lay} {dA : Nat → ClassId} {ad : Nat → Nat} {σ : Mem} {k n o : Nat} (h : Y.2.1 k = (4, n, o)) : cellY Y dA ad σ k = .inl (dA 3, n, .inr (.inr (.inr (.inr (fun i => some (ad (k + o + i))))))) := by
  simp [cellY, h]
/-- a cell's contents look at its own row of the memory alone -/
theorem cellY_ext {Y : Lay} {dA : Nat → ClassId} {ad : Nat → Nat} {σ τ : Mem} {k : Nat} (h : σ k = τ k) : cellY Y dA ad σ k = cellY Y dA ad τ k := by
  have hf : ∀ ci, fvY Y ad σ k ci = fvY Y ad τ k ci := by
    intro ci
    funext j
    simp only [fvY, h]
  simp only [cellY, h, hf]
theorem wsY_set {Y : Lay} {dA : Nat → ClassId} {ad : Nat → Nat} {σ τ : Mem} {k : Nat} (hk : k < Y.1) (ho : ∀ a, a ≠ k → τ a = σ a) : (wsY Y dA ad σ).set k (ad k, cellY Y dA ad τ k) = wsY Y dA ad τ := by
  apply List.ext_getElem?
  intro i
  rw [List.getElem?_set]
  by_cases h : k = i
  · subst h
    simp [wsY, hk]
  · rw [if_neg h]
    by_cases hi : i < Y.1
    · rw [wsY_get hi, wsY_get hi, cellY_ext (ho i (Ne.symm h))]
    · rw [List.getElem?_eq_none (by rw [wsY_len]; omega), List.getElem?_eq_none (by rw [wsY_len]; omega)]
theorem wsY_fld {Y : Lay} {dA : Nat → ClassId} {ad : Nat → Nat} {σ : Mem} {k ci n j : Nat} {v : Int32} (hk : k < Y.1) (h : Y.2.1 k = (0, ci, n)) (hj : Y.2.2 ci j = none) : (wsY Y dA ad σ).set k (ad k, .inr (ci, ((List.range n).map (fvY Y ad σ k ci)).set j (.int v))) = wsY Y dA ad (stM σ k j v) := by
  have e : (Sum.inr (ci, ((List.range n).map (fvY Y ad σ k ci)).set j (Value.int v)) : va_E) = cellY Y dA ad (stM σ k j v) k := by
    rw [cellY_obj h]
    congr 2
    apply List.ext_getElem?
    intro i
    rw [List.getElem?_set]
    by_cases e : j = i
    · subst e
      by_cases hn : j < n
      · simp [hn, fvY, hj, stM]
      · simp [hn]
    · rw [if_neg e]
      by_cases hn : i < n
      · simp only [List.getElem?_map, List.getElem?_range hn, Option.map_some]
        congr 1
        simp only [fvY]
        cases Y.2.2 ci i with
        | none => simp [stM, Ne.symm e]
        | some q => obtain ⟨b, o⟩ := q; cases b <;> rfl
      · simp [hn]
  rw [e]
  exact wsY_set hk fun a ha => stM_ne ha
theorem wsY_arr {Y : Lay} {dA : Nat → ClassId} {ad : Nat → Nat} {σ : Mem} {k n o j : Nat} {v : Int32} (hk : k < Y.1) (h : Y.2.1 k = (1, n, o)) : (wsY Y dA ad σ).set k (ad k, .inl (dA 0, n, .inl (upd (σ k) j v))) = wsY Y dA ad (stM σ k j v) := by
  rw [← stM_row, ← cellY_int (Y := Y) (dA := dA) (ad := ad) (σ := stM σ k j v) h]
  exact wsY_set hk fun a ha => stM_ne ha
theorem wsY_barr {Y : Lay} {dA : Nat → ClassId} {ad : Nat → Nat} {σ : Mem} {k n o j : Nat} {v : Int32} (hk : k < Y.1) (h : Y.2.1 k = (2, n, o)) : (wsY Y dA ad σ).set k (ad k, .inl (dA 1, n, .inl (upd (σ k) j v))) = wsY Y dA ad (stM σ k j v) := by
  rw [← stM_row, ← cellY_bool (Y := Y) (dA := dA) (ad := ad) (σ := stM σ k j v) h]
  exact wsY_set hk fun a ha => stM_ne ha
theorem wsY_row {Y : Lay} {dA : Nat → ClassId} {ad : Nat → Nat} {σ : Mem} {k n o : Nat} {f : Nat → Int32} (hk : k < Y.1) (h : Y.2.1 k = (1, n, o)) : (wsY Y dA ad σ).set k (ad k, .inl (dA 0, n, .inl f)) = wsY Y dA ad (rwM σ k f) := by
  have e : (rwM σ k f) k = f := rwM_row σ k f
  have e2 : cellY Y dA ad (rwM σ k f) k = .inl (dA 0, n, .inl f) := by rw [cellY_int h, e]
  rw [← e2]
  exact wsY_set hk fun a ha => rwM_ne ha
/-- the addresses are apart -/
def adOK (Y : Lay) (ad : Nat → Nat) : Prop := ∀ i j, i < Y.1 → j < Y.1 → ad i = ad j → i = j
/-- where a method may write: its world's cells, and new ones -/
def AY (Y : Lay) (ad : Nat → Nat) (sz : Nat) : Nat → Prop := fun q => (∃ k, k < Y.1 ∧ q = ad k) ∨ sz ≤ q
theorem adOK.D {Y : Lay} {dA : Nat → ClassId} {ad : Nat → Nat} (h : adOK Y ad) (σ : Mem) (sz : Nat) : va_D (AY Y ad sz) (wsY Y dA ad σ) := by
  constructor
  · intro i j a b hi hj e
    obtain ⟨h1, rfl⟩ := wsY_inv hi
    obtain ⟨h2, rfl⟩ := wsY_inv hj
    exact h i j h1 h2 e
  · intro k q hq
    obtain ⟨h1, rfl⟩ := wsY_inv hq
    exact Or.inl ⟨k, h1, rfl⟩
/-! the tables that the class keeps as statics: what each holds -/
def tbM : Nat → Int32 := fun j => ([80, 76, 65, 89] : List Int32).getD j 0
def tbT : Nat → Int32 := fun j => ([0, 0, 0, 1, 1, 1, 1, 1, 0, 0, 0, 0, 0, 0, 0, 0, 0, 0, 0, 0, 0, 0, 0, 1, 1, 1, 1, 1, 1, 1, 1, 1, 1, 0] : List Int32).getD j 0
def tbV : Nat → Int32 := fun j => ([0, 0, 0, 1, 1, 1, 1, 1, 2, 2, 1, 1, 1, 4, 3, 1, 2, 2, 2, 3, 1, 3, 1, 1, 1, 1, 1, 1, 1, 1, 1, 2, 1, 1] : List Int32).getD j 0
def tbJ : Nat → Int32 := fun j => ([0, 0, 1, 0, 0, 0, 0, 0, 1, 1, 0, 0, 0, 0, 0, 0, 0, 0, 0, 0, 0, 0, 0, 0, 0, 0, 0, 0, 0, 0, 0, 0, 0, 0] : List Int32).getD j 0
def stO (C nm : String) (N : Nat) (f : Nat → Int32) (A : Nat → Prop) (U : State) (H : Heap) : Prop := ∃ t : Nat, va_Z C nm "[I" (.ref t) A U H ∧ va_T .int t N (fun j => .int (f j)) A U H
def stOK (A : Nat → Prop) (U : State) (H : Heap) : Prop := stO "StageHouse" "MARK" 4 tbM A U H ∧ stO "StageHouse" "ORDER_TARGETS" 34 tbT A U H ∧ stO "StageHouse" "ORDER_VALUES" 34 tbV A U H ∧ stO "StageHouse" "ORDER_JUMPS" 34 tbJ A U H
theorem stO.via {C nm : String} {N : Nat} {f : Nat → Int32} {A B : Nat → Prop} {u U : State} {H H1 : Heap} (h : stO C nm N f A u H) (hvm : u.vm.Alike U.vm) (hq : ∀ a : Nat, a < H.size → ¬ A a → H1[a]? = H[a]?) (hAB : ∀ q, B q → A q) : stO C nm N f B U H1 := by
  obtain ⟨t, h1, h2⟩ := h
  exact ⟨t, ((h1.moved hvm).kept hq).narrow hAB, ((h2.moved hvm).kept hq).narrow hAB⟩
theorem stOK.via {A B : Nat → Prop} {u U : State} {H H1 : Heap} (h : stOK A u H) (hvm : u.vm.Alike U.vm) (hq : ∀ a : Nat, a < H.size → ¬ A a → H1[a]? = H[a]?) (hAB : ∀ q, B q → A q) : stOK B U H1 :=
  ⟨h.1.via hvm hq hAB, h.2.1.via hvm hq hAB, h.2.2.1.via hvm hq hAB, h.2.2.2.via hvm hq hAB⟩
/-- the words that every method is given -/
def TT : List Cond := lw_tbl.filter goodWord
abbrev wT (y : MethodName) (cc : ByteArray) (nL : Nat) (rt : Option FieldType) : List Cond := .code y cc nL rt :: TT
theorem TT_of {w : Cond} (i : Nat) (h : lw_tbl[i]? = some w) (hg : goodWord w = true) : w ∈ TT := List.mem_filter.mpr ⟨List.mem_of_getElem? h, hg⟩
theorem TT_good : ∀ w ∈ TT, goodWord w = true := fun _ h => (List.mem_filter.mp h).2
/-- what holds of the heap when a method is called -/
def PreY (Y : Lay) (D : va_G) (dA : Nat → ClassId) (ad : Nat → Nat) (σ : Mem) (sz : Nat) (U : State) : Prop := U.heap.size = sz ∧ va_P D vwCl (wsY Y dA ad σ) U.heap ∧ va_K D vwCl (tysY dA) U ∧ adOK Y ad ∧ stOK (AY Y ad sz) U U.heap
def PostY (Y : Lay) (D : va_G) (dA : Nat → ClassId) (ad : Nat → Nat) (τ : Mem) (t : State) : Prop := va_P D vwCl (wsY Y dA ad τ) t.heap ∧ va_K D vwCl (tysY dA) t
/-- contracts: int, void -/
def CTi (Y : Lay) (y : MethodName) (cc : ByteArray) (nL : Nat) (rt : Option FieldType) (rm : Room) (av : (Nat → Nat) → List Value) (σ : Mem) (E : Option (Int32 × Mem)) : Prop :=
  ∀ (l : Launch) (D : va_G) (dA : Nat → ClassId) (ad : Nat → Nat) (sz : Nat) (x : Int32 × Mem), E = some x → Met l y (wT y cc nL rt) rm (va_Pc (av ad) (PreY Y D dA ad σ sz)) (va_Qi (fun r u => (r, u) = x) (PostY Y D dA ad) (AY Y ad sz)) 0 0 (AY Y ad sz)
def CTn (Y : Lay) (y : MethodName) (cc : ByteArray) (nL : Nat) (rt : Option FieldType) (rm : Room) (av : (Nat → Nat) → List Value) (σ : Mem) (E : Option Mem) : Prop :=
  ∀ (l : Launch) (D : va_G) (dA : Nat → ClassId) (ad : Nat → Nat) (sz : Nat) (x : Mem), E = some x → Met l y (wT y cc nL rt) rm (va_Pc (av ad) (PreY Y D dA ad σ sz)) (va_Qv (fun u => u = x) (PostY Y D dA ad) (AY Y ad sz)) 0 0 (AY Y ad sz)
/-! a walk's fixed things in one -/
abbrev CtxT (ω : Type) : Type := (Program × Launch × Env × Room × State) × (MethodId × Array Value × List Frame × Method × Code) × (va_G × (Nat → ClassId) × (Nat → Nat)) × (ω → State → Prop)
def adX {ω : Type} (X : CtxT ω) : Nat → Nat := X.2.2.1.2.2
/-- at pc, with locals L, stack st and memory σ, the method comes to what E says -/
def J {ω : Type} (Y : Lay) (X : CtxT ω) (nL : Nat) (E : Option ω) (pc : Nat) (L : List (Nat × Value)) (st : List Value) (σ : Mem) : Prop :=
  ∀ x, E = some x → ∀ (H : Heap) (locs : List Loc) (ls : Array Slot), lv_has ls nL L → va_P X.2.2.1.1 vwCl (wsY Y X.2.2.1.2.1 X.2.2.1.2.2 σ) H → va_S (AY Y X.2.2.1.2.2 X.1.2.2.2.2.heap.size) X.1.2.2.2.2.heap H locs →
    W X.1.1 X.1.2.1 X.1.2.2.1 X.1.2.2.2.1 X.1.2.2.2.2 X.2.1.1 X.2.1.2.1 X.2.1.2.2.1 X.2.1.2.2.2.1 X.2.1.2.2.2.2 H locs 0 0 (X.2.2.2 x) (F0 X.2.1.1 pc ls st)
def Cx {ω : Type} (Y : Lay) (X : CtxT ω) (nL : Nat) (cc : ByteArray) (own : String) (rt : Option FieldType) (rm : Room) : Prop :=
  X.1.1.tables.exec = Jvm.exec ∧ X.2.1.2.2.2.2.code = cc ∧ X.2.1.2.2.2.2.maxLocals = nL ∧ X.1.2.2.2.2.vm.findClass own = some X.2.1.1.cls ∧ (∀ w ∈ TT, w.before X.2.1.2.1 X.1.2.2.2.2 = true) ∧ X.2.1.2.2.2.1.sig.returnType = rt ∧ X.2.1.2.2.2.1.locks = false ∧ X.1.2.2.2.1 = rm ∧ va_K X.2.2.1.1 vwCl (tysY X.2.2.1.2.1) X.1.2.2.2.2 ∧ adOK Y X.2.2.1.2.2 ∧ stOK (AY Y X.2.2.1.2.2 X.1.2.2.2.2.heap.size) X.1.2.2.2.2 X.1.2.2.2.2.heap
def CRi (Y : Lay) (X : CtxT (Int32 × Mem)) : Prop := X.2.2.2 = fun x => MQ X.2.1.2.2.1 (va_Qi (fun r u => (r, u) = x) (PostY Y X.2.2.1.1 X.2.2.1.2.1 X.2.2.1.2.2) (AY Y X.2.2.1.2.2 X.1.2.2.2.2.heap.size)) X.2.1.2.1 X.1.2.2.2.2 0 0 (AY Y X.2.2.1.2.2 X.1.2.2.2.2.heap.size)
def CRn (Y : Lay) (X : CtxT Mem) : Prop := X.2.2.2 = fun x => MQ X.2.1.2.2.1 (va_Qv (fun u => u = x) (PostY Y X.2.2.1.1 X.2.2.1.2.1 X.2.2.1.2.2) (AY Y X.2.2.1.2.2 X.1.2.2.2.2.heap.size)) X.2.1.2.1 X.1.2.2.2.2 0 0 (AY Y X.2.2.1.2.2 X.1.2.2.2.2.heap.size)
/-! words of the pure functions -/
abbrev inb (i : Int32) (n : Nat) : Prop := 0 ≤ i.toInt ∧ i.toInt < (n : Int)
def ck {ω : Type} (c : Prop) [Decidable c] (k : Option ω) : Option ω := if c then k else none
def lt {α β : Type} (v : α) (k : α → β) : β := k v
def bd {ω : Type} (o : Option (Int32 × Mem)) (k : Int32 → Mem → Option ω) : Option ω := match o with
  | none => none
  | some x => k x.1 x.2
def bv {ω : Type} (o : Option Mem) (k : Mem → Option ω) : Option ω := match o with
  | none => none
  | some x => k x
abbrev okZ (v : Int32) : Prop := v = 0 ∨ v = 1
theorem inb_in {i : Int32} {n : Nat} (h : inb i n) : vp_in i n := vp_in_iff.mpr h
end
section
/-! ===== the rows of J: an instruction each ===== -/
section JR
variable {ω : Type} {Y : Lay} {X : CtxT ω} {nL : Nat} {cc : ByteArray} {own : String} {rt : Option FieldType} {rm : Room} {E E1 E2 : Option ω} {pc : Nat} {L L' : List (Nat × Value)} {st : List Value} {σ : Mem}
theorem j_none : J Y X nL none pc L st σ := by
  intro x hx
  cases hx
theorem j_sub (ks : List Nat) (hL : lv_pick L ks = L') (h : J Y X nL E pc L' st σ) : J Y X nL E pc L st σ := by
  intro x hx H locs ls hl hP hS
  exact h x hx H locs ls (lv_sub hl ks hL) hP hS
theorem j_top {v : Int32} {k : Int32 → Option ω} (h : ∀ y, J Y X nL (k y) pc L (.int y :: st) σ) : J Y X nL (lt v k) pc L (.int v :: st) σ := h v
theorem j_topl {v : Int64} {k : Int64 → Option ω} (h : ∀ y, J Y X nL (k y) pc L (.long y :: st) σ) : J Y X nL (lt v k) pc L (.long v :: st) σ := h v
theorem j_eq {E' : Option ω} (he : E = E') (h : J Y X nL E' pc L st σ) : J Y X nL E pc L st σ := by rw [he]; exact h

theorem j_iconst (C : Cx Y X nL cc own rt rm) {n : Int} {v : Int32} (d : decode cc pc = .ok (.iconst n, 1)) (hv : Int32.ofInt n = v) (h : J Y X nL E (pc + 1) L (.int v :: st) σ) : J Y X nL E pc L (st) σ := by
  intro x hx H locs ls hl hP hS
  obtain ⟨c1, c2, -⟩ := C
  exact lv_iconst c1 c2 d hv (h x hx H locs ls hl hP hS)
theorem j_bipush (C : Cx Y X nL cc own rt rm) {n : Int} {v : Int32} (d : decode cc pc = .ok (.bipush n, 2)) (hv : (Int8.ofInt n).toInt32 = v) (h : J Y X nL E (pc + 2) L (.int v :: st) σ) : J Y X nL E pc L (st) σ := by
  intro x hx H locs ls hl hP hS
  obtain ⟨c1, c2, -⟩ := C
  exact lv_bipush c1 c2 d hv (h x hx H locs ls hl hP hS)
theorem j_sipush (C : Cx Y X nL cc own rt rm) {n : Int} {v : Int32} (d : decode cc pc = .ok (.sipush n, 3)) (hv : (Int16.ofInt n).toInt32 = v) (h : J Y X nL E (pc + 3) L (.int v :: st) σ) : J Y X nL E pc L (st) σ := by
  intro x hx H locs ls hl hP hS
  obtain ⟨c1, c2, -⟩ := C
  exact lv_sipush c1 c2 d hv (h x hx H locs ls hl hP hS)
theorem j_lconst (C : Cx Y X nL cc own rt rm) {n : Fin 2} {v : Int64} (d : decode cc pc = .ok (.lconst n, 1)) (hv : Int64.ofNat (n : Nat) = v) (h : J Y X nL E (pc + 1) L (.long v :: st) σ) : J Y X nL E pc L (st) σ := by
  intro x hx H locs ls hl hP hS
  obtain ⟨c1, c2, -⟩ := C
  exact lv_lconst c1 c2 d hv (h x hx H locs ls hl hP hS)
theorem j_iload_n (C : Cx Y X nL cc own rt rm) {kf : Fin 4} {i : Nat} {v : Int32} (d : decode cc pc = .ok (.iload_n kf, 1)) (k : Nat) (hi : (kf : Nat) = i) (hk : L[k]? = some (i, .int v)) (h : J Y X nL E (pc + 1) L (.int v :: st) σ) : J Y X nL E pc L (st) σ := by
  intro x hx H locs ls hl hP hS
  obtain ⟨c1, c2, -⟩ := C
  exact lv_iload_n c1 c2 d hi (lv_at hl k hk) (h x hx H locs ls hl hP hS)
theorem j_iload (C : Cx Y X nL cc own rt rm) {i : Nat} {v : Int32} (d : decode cc pc = .ok (.iload i, 2)) (k : Nat) (hk : L[k]? = some (i, .int v)) (h : J Y X nL E (pc + 2) L (.int v :: st) σ) : J Y X nL E pc L (st) σ := by
  intro x hx H locs ls hl hP hS
  obtain ⟨c1, c2, -⟩ := C
  exact lv_iload c1 c2 d (lv_at hl k hk) (h x hx H locs ls hl hP hS)
theorem j_lload_n (C : Cx Y X nL cc own rt rm) {kf : Fin 4} {i : Nat} {v : Int64} (d : decode cc pc = .ok (.lload_n kf, 1)) (k : Nat) (hi : (kf : Nat) = i) (hk : L[k]? = some (i, .long v)) (h : J Y X nL E (pc + 1) L (.long v :: st) σ) : J Y X nL E pc L (st) σ := by
  intro x hx H locs ls hl hP hS
  obtain ⟨c1, c2, -⟩ := C
  exact lv_lload_n c1 c2 d hi (lv_at hl k hk) (h x hx H locs ls hl hP hS)
theorem j_lload (C : Cx Y X nL cc own rt rm) {i : Nat} {v : Int64} (d : decode cc pc = .ok (.lload i, 2)) (k : Nat) (hk : L[k]? = some (i, .long v)) (h : J Y X nL E (pc + 2) L (.long v :: st) σ) : J Y X nL E pc L (st) σ := by
  intro x hx H locs ls hl hP hS
  obtain ⟨c1, c2, -⟩ := C
  exact lv_lload c1 c2 d (lv_at hl k hk) (h x hx H locs ls hl hP hS)
theorem j_aload_n (C : Cx Y X nL cc own rt rm) {kf : Fin 4} {i : Nat} {v : Nat} (d : decode cc pc = .ok (.aload_n kf, 1)) (k : Nat) (hi : (kf : Nat) = i) (hk : L[k]? = some (i, .ref v)) (h : J Y X nL E (pc + 1) L (.ref v :: st) σ) : J Y X nL E pc L (st) σ := by
  intro x hx H locs ls hl hP hS
  obtain ⟨c1, c2, -⟩ := C
  exact lv_aload_n c1 c2 d hi (lv_at hl k hk) (h x hx H locs ls hl hP hS)
theorem j_aload (C : Cx Y X nL cc own rt rm) {i : Nat} {v : Nat} (d : decode cc pc = .ok (.aload i, 2)) (k : Nat) (hk : L[k]? = some (i, .ref v)) (h : J Y X nL E (pc + 2) L (.ref v :: st) σ) : J Y X nL E pc L (st) σ := by
  intro x hx H locs ls hl hP hS
  obtain ⟨c1, c2, -⟩ := C
  exact lv_aload c1 c2 d (lv_at hl k hk) (h x hx H locs ls hl hP hS)
theorem j_istore_n (C : Cx Y X nL cc own rt rm) {kf : Fin 4} {i : Nat} {v : Int32} (d : decode cc pc = .ok (.istore_n kf, 1)) (hi : (kf : Nat) = i) (hn : i < nL) (ks : List Nat) (hL : lv_pick ((i, Value.int v) :: L.filter (fun q => !(q.1 == i) && !(q.1 + 1 == i && q.2.category == 2))) ks = L') (h : J Y X nL E (pc + 1) L' st σ) : J Y X nL E pc L (.int v :: st) σ := by
  intro x hx H locs ls hl hP hS
  obtain ⟨c1, c2, -⟩ := C
  exact lv_istore_n c1 c2 d hi hl hn rfl (fun ls' hl' => h x hx H locs ls' (lv_sub hl' ks hL) hP hS)
theorem j_istore (C : Cx Y X nL cc own rt rm) {i : Nat} {v : Int32} (d : decode cc pc = .ok (.istore i, 2)) (hn : i < nL) (ks : List Nat) (hL : lv_pick ((i, Value.int v) :: L.filter (fun q => !(q.1 == i) && !(q.1 + 1 == i && q.2.category == 2))) ks = L') (h : J Y X nL E (pc + 2) L' st σ) : J Y X nL E pc L (.int v :: st) σ := by
  intro x hx H locs ls hl hP hS
  obtain ⟨c1, c2, -⟩ := C
  exact lv_istore c1 c2 d hl hn rfl (fun ls' hl' => h x hx H locs ls' (lv_sub hl' ks hL) hP hS)
theorem j_astore_n (C : Cx Y X nL cc own rt rm) {kf : Fin 4} {i : Nat} {v : Nat} (d : decode cc pc = .ok (.astore_n kf, 1)) (hi : (kf : Nat) = i) (hn : i < nL) (ks : List Nat) (hL : lv_pick ((i, Value.ref v) :: L.filter (fun q => !(q.1 == i) && !(q.1 + 1 == i && q.2.category == 2))) ks = L') (h : J Y X nL E (pc + 1) L' st σ) : J Y X nL E pc L (.ref v :: st) σ := by
  intro x hx H locs ls hl hP hS
  obtain ⟨c1, c2, -⟩ := C
  exact lv_astore_n c1 c2 d hi hl hn rfl (fun ls' hl' => h x hx H locs ls' (lv_sub hl' ks hL) hP hS)
theorem j_astore (C : Cx Y X nL cc own rt rm) {i : Nat} {v : Nat} (d : decode cc pc = .ok (.astore i, 2)) (hn : i < nL) (ks : List Nat) (hL : lv_pick ((i, Value.ref v) :: L.filter (fun q => !(q.1 == i) && !(q.1 + 1 == i && q.2.category == 2))) ks = L') (h : J Y X nL E (pc + 2) L' st σ) : J Y X nL E pc L (.ref v :: st) σ := by
  intro x hx H locs ls hl hP hS
  obtain ⟨c1, c2, -⟩ := C
  exact lv_astore c1 c2 d hl hn rfl (fun ls' hl' => h x hx H locs ls' (lv_sub hl' ks hL) hP hS)
theorem j_iinc (C : Cx Y X nL cc own rt rm) {i : Nat} {n : Int} {v : Int32} {L2 : Int32 → List (Nat × Value)} {k : Int32 → Option ω} (d : decode cc pc = .ok (.iinc i n, 3)) (q : Nat) (hq : L[q]? = some (i, .int v)) (hn : i < nL) (ks : List Nat) (hL : ∀ y : Int32, lv_pick ((i, Value.int y) :: L.filter (fun q => !(q.1 == i) && !(q.1 + 1 == i && q.2.category == 2))) ks = L2 y) (h : ∀ y : Int32, J Y X nL (k y) (pc + 3) (L2 y) st σ) : J Y X nL (lt (v + Int32.ofInt n) k) pc L st σ := by
  intro x hx H locs ls hl hP hS
  obtain ⟨c1, c2, -⟩ := C
  exact lv_iinc c1 c2 d hl hq rfl hn rfl (fun ls' hl' => h _ x hx H locs ls' (lv_sub hl' ks (hL _)) hP hS)
theorem j_iadd (C : Cx Y X nL cc own rt rm) {a b : Int32} (d : decode cc pc = .ok (.iadd, 1))  (h : J Y X nL E (pc + 1) L (.int (a + b) :: st) σ) : J Y X nL E pc L (.int b :: .int a :: st) σ := by
  intro x hx H locs ls hl hP hS
  obtain ⟨c1, c2, -⟩ := C
  exact lv_iadd c1 c2 d  (h x hx H locs ls hl hP hS)
theorem j_isub (C : Cx Y X nL cc own rt rm) {a b : Int32} (d : decode cc pc = .ok (.isub, 1))  (h : J Y X nL E (pc + 1) L (.int (a - b) :: st) σ) : J Y X nL E pc L (.int b :: .int a :: st) σ := by
  intro x hx H locs ls hl hP hS
  obtain ⟨c1, c2, -⟩ := C
  exact lv_isub c1 c2 d  (h x hx H locs ls hl hP hS)
theorem j_imul (C : Cx Y X nL cc own rt rm) {a b : Int32} (d : decode cc pc = .ok (.imul, 1))  (h : J Y X nL E (pc + 1) L (.int (a * b) :: st) σ) : J Y X nL E pc L (.int b :: .int a :: st) σ := by
  intro x hx H locs ls hl hP hS
  obtain ⟨c1, c2, -⟩ := C
  exact lv_imul c1 c2 d  (h x hx H locs ls hl hP hS)
theorem j_iand (C : Cx Y X nL cc own rt rm) {a b : Int32} (d : decode cc pc = .ok (.iand, 1))  (h : J Y X nL E (pc + 1) L (.int (a &&& b) :: st) σ) : J Y X nL E pc L (.int b :: .int a :: st) σ := by
  intro x hx H locs ls hl hP hS
  obtain ⟨c1, c2, -⟩ := C
  exact lv_iand c1 c2 d  (h x hx H locs ls hl hP hS)
theorem j_ior (C : Cx Y X nL cc own rt rm) {a b : Int32} (d : decode cc pc = .ok (.ior, 1))  (h : J Y X nL E (pc + 1) L (.int (a ||| b) :: st) σ) : J Y X nL E pc L (.int b :: .int a :: st) σ := by
  intro x hx H locs ls hl hP hS
  obtain ⟨c1, c2, -⟩ := C
  exact lv_ior c1 c2 d  (h x hx H locs ls hl hP hS)
theorem j_ixor (C : Cx Y X nL cc own rt rm) {a b : Int32} (d : decode cc pc = .ok (.ixor, 1))  (h : J Y X nL E (pc + 1) L (.int (a ^^^ b) :: st) σ) : J Y X nL E pc L (.int b :: .int a :: st) σ := by
  intro x hx H locs ls hl hP hS
  obtain ⟨c1, c2, -⟩ := C
  exact lv_ixor c1 c2 d  (h x hx H locs ls hl hP hS)
theorem j_ishl (C : Cx Y X nL cc own rt rm) {a b : Int32} (d : decode cc pc = .ok (.ishl, 1))  (h : J Y X nL E (pc + 1) L (.int (a <<< (b &&& 31)) :: st) σ) : J Y X nL E pc L (.int b :: .int a :: st) σ := by
  intro x hx H locs ls hl hP hS
  obtain ⟨c1, c2, -⟩ := C
  exact lv_ishl c1 c2 d  (h x hx H locs ls hl hP hS)
theorem j_ishr (C : Cx Y X nL cc own rt rm) {a b : Int32} (d : decode cc pc = .ok (.ishr, 1))  (h : J Y X nL E (pc + 1) L (.int (a >>> (b &&& 31)) :: st) σ) : J Y X nL E pc L (.int b :: .int a :: st) σ := by
  intro x hx H locs ls hl hP hS
  obtain ⟨c1, c2, -⟩ := C
  exact lv_ishr c1 c2 d  (h x hx H locs ls hl hP hS)
theorem j_iushr (C : Cx Y X nL cc own rt rm) {a b : Int32} (d : decode cc pc = .ok (.iushr, 1))  (h : J Y X nL E (pc + 1) L (.int ((a.toUInt32 >>> (b.toUInt32 &&& Int32.toUInt32 31)).toInt32) :: st) σ) : J Y X nL E pc L (.int b :: .int a :: st) σ := by
  intro x hx H locs ls hl hP hS
  obtain ⟨c1, c2, -⟩ := C
  exact lv_iushr c1 c2 d rfl (h x hx H locs ls hl hP hS)
theorem j_ineg (C : Cx Y X nL cc own rt rm) {a : Int32} (d : decode cc pc = .ok (.ineg, 1))  (h : J Y X nL E (pc + 1) L (.int (-a) :: st) σ) : J Y X nL E pc L (.int a :: st) σ := by
  intro x hx H locs ls hl hP hS
  obtain ⟨c1, c2, -⟩ := C
  exact lv_ineg c1 c2 d  (h x hx H locs ls hl hP hS)
theorem j_i2s (C : Cx Y X nL cc own rt rm) {a : Int32} (d : decode cc pc = .ok (.i2s, 1))  (h : J Y X nL E (pc + 1) L (.int (a.toInt16.toInt32) :: st) σ) : J Y X nL E pc L (.int a :: st) σ := by
  intro x hx H locs ls hl hP hS
  obtain ⟨c1, c2, -⟩ := C
  exact lv_i2s c1 c2 d rfl (h x hx H locs ls hl hP hS)
theorem j_i2l (C : Cx Y X nL cc own rt rm) {a : Int32} (d : decode cc pc = .ok (.i2l, 1))  (h : J Y X nL E (pc + 1) L (.long (a.toInt64) :: st) σ) : J Y X nL E pc L (.int a :: st) σ := by
  intro x hx H locs ls hl hP hS
  obtain ⟨c1, c2, -⟩ := C
  exact lv_i2l c1 c2 d rfl (h x hx H locs ls hl hP hS)
theorem j_lcmp (C : Cx Y X nL cc own rt rm) {a b : Int64} (d : decode cc pc = .ok (.lcmp, 1))  (h : J Y X nL E (pc + 1) L (.int (lg_cmp a b) :: st) σ) : J Y X nL E pc L (.long b :: .long a :: st) σ := by
  intro x hx H locs ls hl hP hS
  obtain ⟨c1, c2, -⟩ := C
  exact W.lcmp c1 c2 d  (h x hx H locs ls hl hP hS)
theorem j_dup (C : Cx Y X nL cc own rt rm) {v : Value} (d : decode cc pc = .ok (.dup, 1)) (hv : v.category = 1) (h : J Y X nL E (pc + 1) L (v :: v :: st) σ) : J Y X nL E pc L (v :: st) σ := by
  intro x hx H locs ls hl hP hS
  obtain ⟨c1, c2, -⟩ := C
  exact lv_dup c1 c2 d hv (h x hx H locs ls hl hP hS)
theorem j_pop (C : Cx Y X nL cc own rt rm) {v : Value} (d : decode cc pc = .ok (.pop, 1)) (hv : v.category = 1) (h : J Y X nL E (pc + 1) L (st) σ) : J Y X nL E pc L (v :: st) σ := by
  intro x hx H locs ls hl hP hS
  obtain ⟨c1, c2, -⟩ := C
  exact lv_pop c1 c2 d hv (h x hx H locs ls hl hP hS)
theorem j_dup_x1 (C : Cx Y X nL cc own rt rm) {v u : Value} (d : decode cc pc = .ok (.dup_x1, 1)) (hv : v.category = 1) (hu : u.category = 1) (h : J Y X nL E (pc + 1) L (v :: u :: v :: st) σ) : J Y X nL E pc L (v :: u :: st) σ := by
  intro x hx H locs ls hl hP hS
  obtain ⟨c1, c2, -⟩ := C
  exact lv_dup_x1 c1 c2 d hv hu (h x hx H locs ls hl hP hS)
theorem j_dup2 (C : Cx Y X nL cc own rt rm) {v u : Value} (d : decode cc pc = .ok (.dup2, 1)) (hv : v.category = 1) (hu : u.category = 1) (h : J Y X nL E (pc + 1) L (v :: u :: v :: u :: st) σ) : J Y X nL E pc L (v :: u :: st) σ := by
  intro x hx H locs ls hl hP hS
  obtain ⟨c1, c2, -⟩ := C
  exact lv_dup2_11 c1 c2 d hv hu (h x hx H locs ls hl hP hS)
theorem j_idiv (C : Cx Y X nL cc own rt rm) {a b : Int32} (d : decode cc pc = .ok (.idiv, 1)) (h : J Y X nL E (pc + 1) L (.int (a / b) :: st) σ) : J Y X nL (ck (¬ b = 0) E) pc L (.int b :: .int a :: st) σ := by
  intro x hx H locs ls hl hP hS
  obtain ⟨c1, c2, -⟩ := C
  unfold ck at hx
  by_cases hb : b = 0
  · rw [if_neg (fun q => q hb)] at hx; cases hx
  · rw [if_pos hb] at hx
    exact lv_idiv c1 c2 d hb (h x hx H locs ls hl hP hS)
theorem j_irem (C : Cx Y X nL cc own rt rm) {a b : Int32} (d : decode cc pc = .ok (.irem, 1)) (h : J Y X nL E (pc + 1) L (.int (a - a / b * b) :: st) σ) : J Y X nL (ck (¬ b = 0) E) pc L (.int b :: .int a :: st) σ := by
  intro x hx H locs ls hl hP hS
  obtain ⟨c1, c2, -⟩ := C
  unfold ck at hx
  by_cases hb : b = 0
  · rw [if_neg (fun q => q hb)] at hx; cases hx
  · rw [if_pos hb] at hx
    exact lv_irem c1 c2 d hb (h x hx H locs ls hl hP hS)
theorem j_if_eq (C : Cx Y X nL cc own rt rm) {a : Int32} {off : Int} {tgt : Nat} (d : decode cc pc = .ok (.ifCond .eq off, 3)) (ht : (pc : Int) + off = (tgt : Int)) (h1 : J Y X nL E1 tgt L st σ) (h2 : J Y X nL E2 (pc + 3) L st σ) : J Y X nL (if a = 0 then E1 else E2) pc L (.int a :: st) σ := by
  intro x hx H locs ls hl hP hS
  obtain ⟨c1, c2, -⟩ := C
  refine lv_if_eq c1 c2 d ht (fun hc => ?_) (fun hc => ?_)
  · rw [if_pos hc] at hx
    exact h1 x hx H locs ls hl hP hS
  · rw [if_neg hc] at hx
    exact h2 x hx H locs ls hl hP hS
theorem j_icmp_eq (C : Cx Y X nL cc own rt rm) {a b : Int32} {off : Int} {tgt : Nat} (d : decode cc pc = .ok (.if_icmp .eq off, 3)) (ht : (pc : Int) + off = (tgt : Int)) (h1 : J Y X nL E1 tgt L st σ) (h2 : J Y X nL E2 (pc + 3) L st σ) : J Y X nL (if a = b then E1 else E2) pc L (.int b :: .int a :: st) σ := by
  intro x hx H locs ls hl hP hS
  obtain ⟨c1, c2, -⟩ := C
  refine lv_icmp_eq c1 c2 d ht (fun hc => ?_) (fun hc => ?_)
  · rw [if_pos hc] at hx
    exact h1 x hx H locs ls hl hP hS
  · rw [if_neg hc] at hx
    exact h2 x hx H locs ls hl hP hS
theorem j_if_ne (C : Cx Y X nL cc own rt rm) {a : Int32} {off : Int} {tgt : Nat} (d : decode cc pc = .ok (.ifCond .ne off, 3)) (ht : (pc : Int) + off = (tgt : Int)) (h1 : J Y X nL E1 tgt L st σ) (h2 : J Y X nL E2 (pc + 3) L st σ) : J Y X nL (if a = 0 then E2 else E1) pc L (.int a :: st) σ := by
  intro x hx H locs ls hl hP hS
  obtain ⟨c1, c2, -⟩ := C
  refine lv_if_ne c1 c2 d ht (fun hc => ?_) (fun hc => ?_)
  · rw [if_neg hc] at hx
    exact h1 x hx H locs ls hl hP hS
  · rw [if_pos hc] at hx
    exact h2 x hx H locs ls hl hP hS
theorem j_icmp_ne (C : Cx Y X nL cc own rt rm) {a b : Int32} {off : Int} {tgt : Nat} (d : decode cc pc = .ok (.if_icmp .ne off, 3)) (ht : (pc : Int) + off = (tgt : Int)) (h1 : J Y X nL E1 tgt L st σ) (h2 : J Y X nL E2 (pc + 3) L st σ) : J Y X nL (if a = b then E2 else E1) pc L (.int b :: .int a :: st) σ := by
  intro x hx H locs ls hl hP hS
  obtain ⟨c1, c2, -⟩ := C
  refine lv_icmp_ne c1 c2 d ht (fun hc => ?_) (fun hc => ?_)
  · rw [if_neg hc] at hx
    exact h1 x hx H locs ls hl hP hS
  · rw [if_pos hc] at hx
    exact h2 x hx H locs ls hl hP hS
theorem j_if_lt (C : Cx Y X nL cc own rt rm) {a : Int32} {off : Int} {tgt : Nat} (d : decode cc pc = .ok (.ifCond .lt off, 3)) (ht : (pc : Int) + off = (tgt : Int)) (h1 : J Y X nL E1 tgt L st σ) (h2 : J Y X nL E2 (pc + 3) L st σ) : J Y X nL (if a < 0 then E1 else E2) pc L (.int a :: st) σ := by
  intro x hx H locs ls hl hP hS
  obtain ⟨c1, c2, -⟩ := C
  refine lv_if_lt c1 c2 d ht (fun hc => ?_) (fun hc => ?_)
  · rw [if_pos hc] at hx
    exact h1 x hx H locs ls hl hP hS
  · rw [if_neg hc] at hx
    exact h2 x hx H locs ls hl hP hS
theorem j_icmp_lt (C : Cx Y X nL cc own rt rm) {a b : Int32} {off : Int} {tgt : Nat} (d : decode cc pc = .ok (.if_icmp .lt off, 3)) (ht : (pc : Int) + off = (tgt : Int)) (h1 : J Y X nL E1 tgt L st σ) (h2 : J Y X nL E2 (pc + 3) L st σ) : J Y X nL (if a < b then E1 else E2) pc L (.int b :: .int a :: st) σ := by
  intro x hx H locs ls hl hP hS
  obtain ⟨c1, c2, -⟩ := C
  refine lv_icmp_lt c1 c2 d ht (fun hc => ?_) (fun hc => ?_)
  · rw [if_pos hc] at hx
    exact h1 x hx H locs ls hl hP hS
  · rw [if_neg hc] at hx
    exact h2 x hx H locs ls hl hP hS
theorem j_if_ge (C : Cx Y X nL cc own rt rm) {a : Int32} {off : Int} {tgt : Nat} (d : decode cc pc = .ok (.ifCond .ge off, 3)) (ht : (pc : Int) + off = (tgt : Int)) (h1 : J Y X nL E1 tgt L st σ) (h2 : J Y X nL E2 (pc + 3) L st σ) : J Y X nL (if 0 ≤ a then E1 else E2) pc L (.int a :: st) σ := by
  intro x hx H locs ls hl hP hS
  obtain ⟨c1, c2, -⟩ := C
  refine lv_if_ge c1 c2 d ht (fun hc => ?_) (fun hc => ?_)
  · rw [if_pos hc] at hx
    exact h1 x hx H locs ls hl hP hS
  · rw [if_neg hc] at hx
    exact h2 x hx H locs ls hl hP hS
theorem j_icmp_ge (C : Cx Y X nL cc own rt rm) {a b : Int32} {off : Int} {tgt : Nat} (d : decode cc pc = .ok (.if_icmp .ge off, 3)) (ht : (pc : Int) + off = (tgt : Int)) (h1 : J Y X nL E1 tgt L st σ) (h2 : J Y X nL E2 (pc + 3) L st σ) : J Y X nL (if b ≤ a then E1 else E2) pc L (.int b :: .int a :: st) σ := by
  intro x hx H locs ls hl hP hS
  obtain ⟨c1, c2, -⟩ := C
  refine lv_icmp_ge c1 c2 d ht (fun hc => ?_) (fun hc => ?_)
  · rw [if_pos hc] at hx
    exact h1 x hx H locs ls hl hP hS
  · rw [if_neg hc] at hx
    exact h2 x hx H locs ls hl hP hS
theorem j_if_gt (C : Cx Y X nL cc own rt rm) {a : Int32} {off : Int} {tgt : Nat} (d : decode cc pc = .ok (.ifCond .gt off, 3)) (ht : (pc : Int) + off = (tgt : Int)) (h1 : J Y X nL E1 tgt L st σ) (h2 : J Y X nL E2 (pc + 3) L st σ) : J Y X nL (if 0 < a then E1 else E2) pc L (.int a :: st) σ := by
  intro x hx H locs ls hl hP hS
  obtain ⟨c1, c2, -⟩ := C
  refine lv_if_gt c1 c2 d ht (fun hc => ?_) (fun hc => ?_)
  · rw [if_pos hc] at hx
    exact h1 x hx H locs ls hl hP hS
  · rw [if_neg hc] at hx
    exact h2 x hx H locs ls hl hP hS
theorem j_icmp_gt (C : Cx Y X nL cc own rt rm) {a b : Int32} {off : Int} {tgt : Nat} (d : decode cc pc = .ok (.if_icmp .gt off, 3)) (ht : (pc : Int) + off = (tgt : Int)) (h1 : J Y X nL E1 tgt L st σ) (h2 : J Y X nL E2 (pc + 3) L st σ) : J Y X nL (if b < a then E1 else E2) pc L (.int b :: .int a :: st) σ := by
  intro x hx H locs ls hl hP hS
  obtain ⟨c1, c2, -⟩ := C
  refine lv_icmp_gt c1 c2 d ht (fun hc => ?_) (fun hc => ?_)
  · rw [if_pos hc] at hx
    exact h1 x hx H locs ls hl hP hS
  · rw [if_neg hc] at hx
    exact h2 x hx H locs ls hl hP hS
theorem j_if_le (C : Cx Y X nL cc own rt rm) {a : Int32} {off : Int} {tgt : Nat} (d : decode cc pc = .ok (.ifCond .le off, 3)) (ht : (pc : Int) + off = (tgt : Int)) (h1 : J Y X nL E1 tgt L st σ) (h2 : J Y X nL E2 (pc + 3) L st σ) : J Y X nL (if a ≤ 0 then E1 else E2) pc L (.int a :: st) σ := by
  intro x hx H locs ls hl hP hS
  obtain ⟨c1, c2, -⟩ := C
  refine lv_if_le c1 c2 d ht (fun hc => ?_) (fun hc => ?_)
  · rw [if_pos hc] at hx
    exact h1 x hx H locs ls hl hP hS
  · rw [if_neg hc] at hx
    exact h2 x hx H locs ls hl hP hS
theorem j_icmp_le (C : Cx Y X nL cc own rt rm) {a b : Int32} {off : Int} {tgt : Nat} (d : decode cc pc = .ok (.if_icmp .le off, 3)) (ht : (pc : Int) + off = (tgt : Int)) (h1 : J Y X nL E1 tgt L st σ) (h2 : J Y X nL E2 (pc + 3) L st σ) : J Y X nL (if a ≤ b then E1 else E2) pc L (.int b :: .int a :: st) σ := by
  intro x hx H locs ls hl hP hS
  obtain ⟨c1, c2, -⟩ := C
  refine lv_icmp_le c1 c2 d ht (fun hc => ?_) (fun hc => ?_)
  · rw [if_pos hc] at hx
    exact h1 x hx H locs ls hl hP hS
  · rw [if_neg hc] at hx
    exact h2 x hx H locs ls hl hP hS
theorem j_goto (C : Cx Y X nL cc own rt rm) {off : Int} {tgt : Nat} (d : decode cc pc = .ok (.goto off, 3)) (ht : (pc : Int) + off = (tgt : Int)) (h : J Y X nL E tgt L st σ) : J Y X nL E pc L st σ := by
  intro x hx H locs ls hl hP hS
  obtain ⟨c1, c2, -⟩ := C
  exact lv_goto c1 c2 d ht (h x hx H locs ls hl hP hS)
theorem j_ldc (C : Cx Y X nL cc own rt rm) {idx : Nat} {v : Int32} (hw : Cond.constant own idx v ∈ TT) (d : decode cc pc = .ok (.ldc idx, 2)) (h : J Y X nL E (pc + 2) L (.int v :: st) σ) : J Y X nL E pc L st σ := by
  intro x hx H locs ls hl hP hS
  obtain ⟨c1, c2, -, c4, c5, -⟩ := C
  exact lv_ldc c1 c2 c4 (c5 _ hw) d (h x hx H locs ls hl hP hS)
theorem j_ldcw (C : Cx Y X nL cc own rt rm) {idx : Nat} {v : Int32} (hw : Cond.constant own idx v ∈ TT) (d : decode cc pc = .ok (.ldc_w idx, 3)) (h : J Y X nL E (pc + 3) L (.int v :: st) σ) : J Y X nL E pc L st σ := by
  intro x hx H locs ls hl hP hS
  obtain ⟨c1, c2, -, c4, c5, -⟩ := C
  exact lv_ldcw c1 c2 c4 (c5 _ hw) d (h x hx H locs ls hl hP hS)
theorem j_ldc2 (C : Cx Y X nL cc own rt rm) {idx : Nat} {v : Int64} (hw : Cond.constantLong own idx v ∈ TT) (d : decode cc pc = .ok (.ldc2_w idx, 3)) (h : J Y X nL E (pc + 3) L (.long v :: st) σ) : J Y X nL E pc L st σ := by
  intro x hx H locs ls hl hP hS
  obtain ⟨c1, c2, -, c4, c5, -⟩ := C
  exact lv_ldc2 c1 c2 c4 (c5 _ hw) d (h x hx H locs ls hl hP hS)
theorem j_tswO (C : Cx Y X nL cc own rt rm) {dflt lo hi : Int} {offs : Array Int} {len : Nat} {v : Int32} {tgt : Nat} (d : decode cc pc = .ok (.tableswitch dflt lo hi offs, len)) (hv : v.toInt < lo ∨ hi < v.toInt) (ht : (pc : Int) + dflt = (tgt : Int)) (h : J Y X nL E tgt L st σ) : J Y X nL E pc L (.int v :: st) σ := by
  intro x hx H locs ls hl hP hS
  obtain ⟨c1, c2, -⟩ := C
  exact lv_tableOut c1 c2 d hv ht (h x hx H locs ls hl hP hS)
theorem j_tswI (C : Cx Y X nL cc own rt rm) {dflt lo hi : Int} {offs : Array Int} {len : Nat} {v : Int32} {off : Int} {tgt : Nat} (d : decode cc pc = .ok (.tableswitch dflt lo hi offs, len)) (h1 : ¬ v.toInt < lo) (h2 : ¬ hi < v.toInt) (ho : offs[(v.toInt - lo).toNat]? = some off) (ht : (pc : Int) + off = (tgt : Int)) (h : J Y X nL E tgt L st σ) : J Y X nL E pc L (.int v :: st) σ := by
  intro x hx H locs ls hl hP hS
  obtain ⟨c1, c2, -⟩ := C
  exact lv_tableIn c1 c2 d h1 h2 ho ht (h x hx H locs ls hl hP hS)
/-- a case of a switch, by its number -/
theorem j_ite {c : Prop} [Decidable c] (h1 : c → J Y X nL E1 pc L st σ) (h2 : ¬ c → J Y X nL E2 pc L st σ) : J Y X nL (if c then E1 else E2) pc L st σ := by
  by_cases hc : c
  · rw [if_pos hc]; exact h1 hc
  · rw [if_neg hc]; exact h2 hc
/-! fields -/
/-- what is known of a class: its number in the worlds, its words, its fields' types and names -/
def KI (ci : Nat) (Cn : String) (T : u_T) (N : Nat) (ty : Nat → FieldType) : Prop := vwCl[ci]? = some (Cn, T, N) ∧ (∀ w ∈ u_ws Cn T N, w ∈ TT) ∧ (∀ k, k < N → parseFieldDescriptor (T k).2.2.1 = some (ty k)) ∧ (∀ a, a < N → ∀ b, b < N → a ≠ b → (T a).2.1 ≠ (T b).2.1)
theorem fs_get {n : Nat} {f : Nat → Value} {j : Nat} (h : j < n) : ((List.range n).map f)[j]? = some (f j) := by simp [h]
theorem fvY_int {ad : Nat → Nat} {q ci j : Nat} (h : Y.2.2 ci j = none) : fvY Y ad σ q ci j = .int (σ q j) := by simp [fvY, h]
theorem fvY_rel {ad : Nat → Nat} {q ci j o : Nat} (h : Y.2.2 ci j = some (true, o)) : fvY Y ad σ q ci j = .ref (ad (q + o)) := by simp [fvY, h]
theorem fvY_abs {ad : Nat → Nat} {q ci j o : Nat} (h : Y.2.2 ci j = some (false, o)) : fvY Y ad σ q ci j = .ref (ad o) := by simp [fvY, h]
theorem j_getV (C : Cx Y X nL cc own rt rm) {q ci N idx : Nat} {Cn : String} {T : u_T} {ty : Nat → FieldType} {v : Value} (hc : KI ci Cn T N ty) (hk : Y.2.1 q = (0, ci, N)) (hq : q < Y.1) (j : Nat) (hj : j < N) (hl9 : Cond.fieldLink own idx (T j).1 (T j).2.1 (T j).2.2.1 ∈ TT) (hv : fvY Y (adX X) σ q ci j = v) (d : decode cc pc = .ok (.getfield idx, 3)) (h : J Y X nL E (pc + 3) L (v :: st) σ) : J Y X nL E pc L (.ref (adX X q) :: st) σ := by
  intro x hx H locs ls hl hP hS
  obtain ⟨c1, c2, -, c4, c5, -, -, -, c9, -⟩ := C
  have hg := wsY_get (Y := Y) (dA := X.2.2.1.2.1) (ad := X.2.2.1.2.2) (σ := σ) hq
  rw [cellY_obj hk] at hg
  refine va_get c1 c2 c5 hc.2.1 c4 c9 hP q hg hc.1 j hj (c5 _ hl9) (fun _ h9 => h9) (v := v) ?_ d (h x hx H locs ls hl hP hS)
  rw [fs_get hj]
  exact congrArg some hv
theorem j_get (C : Cx Y X nL cc own rt rm) {q ci N idx : Nat} {Cn : String} {T : u_T} {ty : Nat → FieldType} (hc : KI ci Cn T N ty) (hk : Y.2.1 q = (0, ci, N)) (hq : q < Y.1) (j : Nat) (hj : j < N) (hl9 : Cond.fieldLink own idx (T j).1 (T j).2.1 (T j).2.2.1 ∈ TT) (hr : Y.2.2 ci j = none) (d : decode cc pc = .ok (.getfield idx, 3)) (h : J Y X nL E (pc + 3) L (.int (σ q j) :: st) σ) : J Y X nL E pc L (.ref (adX X q) :: st) σ :=
  j_getV C hc hk hq j hj hl9 (fvY_int hr) d h
theorem j_getR (C : Cx Y X nL cc own rt rm) {q ci N idx o : Nat} {Cn : String} {T : u_T} {ty : Nat → FieldType} (hc : KI ci Cn T N ty) (hk : Y.2.1 q = (0, ci, N)) (hq : q < Y.1) (j : Nat) (hj : j < N) (hl9 : Cond.fieldLink own idx (T j).1 (T j).2.1 (T j).2.2.1 ∈ TT) (hr : Y.2.2 ci j = some (true, o)) (d : decode cc pc = .ok (.getfield idx, 3)) (h : J Y X nL E (pc + 3) L (.ref (adX X (q + o)) :: st) σ) : J Y X nL E pc L (.ref (adX X q) :: st) σ :=
  j_getV C hc hk hq j hj hl9 (fvY_rel hr) d h
theorem j_getA (C : Cx Y X nL cc own rt rm) {q ci N idx o : Nat} {Cn : String} {T : u_T} {ty : Nat → FieldType} (hc : KI ci Cn T N ty) (hk : Y.2.1 q = (0, ci, N)) (hq : q < Y.1) (j : Nat) (hj : j < N) (hl9 : Cond.fieldLink own idx (T j).1 (T j).2.1 (T j).2.2.1 ∈ TT) (hr : Y.2.2 ci j = some (false, o)) (d : decode cc pc = .ok (.getfield idx, 3)) (h : J Y X nL E (pc + 3) L (.ref (adX X o) :: st) σ) : J Y X nL E pc L (.ref (adX X q) :: st) σ :=
  j_getV C hc hk hq j hj hl9 (fvY_abs hr) d h
theorem j_putV (C : Cx Y X nL cc own rt rm) {q ci N idx : Nat} {Cn : String} {T : u_T} {ty : Nat → FieldType} {v : Int32} {tj : FieldType} (hc : KI ci Cn T N ty) (hk : Y.2.1 q = (0, ci, N)) (hq : q < Y.1) (j : Nat) (hj : j < N) (hl9 : Cond.fieldLink own idx (T j).1 (T j).2.1 (T j).2.2.1 ∈ TT) (hr : Y.2.2 ci j = none) (hf : (T j).2.2.2 = false) (htj : ty j = tj) (hn : narrow tj (.int v) = .int v) (hfit : fits tj (.int v) = true) (d : decode cc pc = .ok (.putfield idx, 3)) (h : J Y X nL E (pc + 3) L st (stM σ q j v)) : J Y X nL E pc L (.int v :: .ref (adX X q) :: st) σ := by
  intro x hx H locs ls hl hP hS
  obtain ⟨c1, c2, -, c4, c5, -, -, -, c9, c10, -⟩ := C
  have hg := wsY_get (Y := Y) (dA := X.2.2.1.2.1) (ad := X.2.2.1.2.2) (σ := σ) hq
  rw [cellY_obj hk] at hg
  refine va_put c1 c2 c5 hc.2.1 ty hc.2.2.1 hc.2.2.2 c4 c9 hP (c10.D σ _) hS q hg hc.1 j hj (c5 _ hl9) (fun _ h9 => h9) hf (ty := tj) (v := .int v) (by rw [← htj]; exact hc.2.2.1 j hj) hn hfit (by simpa using hj) d (fun H1 locs1 hP1 _ hS1 => ?_)
  rw [wsY_fld hq hk hr] at hP1
  exact h x hx H1 locs1 ls hl hP1 hS1
theorem j_put (C : Cx Y X nL cc own rt rm) {q ci N idx : Nat} {Cn : String} {T : u_T} {ty : Nat → FieldType} {v : Int32} {k : Mem → Option ω} (hc : KI ci Cn T N ty) (hk : Y.2.1 q = (0, ci, N)) (hq : q < Y.1) (j : Nat) (hj : j < N) (hl9 : Cond.fieldLink own idx (T j).1 (T j).2.1 (T j).2.2.1 ∈ TT) (hr : Y.2.2 ci j = none) (hf : (T j).2.2.2 = false) (htj : ty j = .int) (d : decode cc pc = .ok (.putfield idx, 3)) (h : ∀ τ, J Y X nL (k τ) (pc + 3) L st τ) : J Y X nL (lt (stM σ q j v) k) pc L (.int v :: .ref (adX X q) :: st) σ :=
  j_putV C hc hk hq j hj hl9 hr hf htj rfl rfl d (h _)
theorem j_putZ (C : Cx Y X nL cc own rt rm) {q ci N idx : Nat} {Cn : String} {T : u_T} {ty : Nat → FieldType} {v : Int32} {k : Mem → Option ω} (hc : KI ci Cn T N ty) (hk : Y.2.1 q = (0, ci, N)) (hq : q < Y.1) (j : Nat) (hj : j < N) (hl9 : Cond.fieldLink own idx (T j).1 (T j).2.1 (T j).2.2.1 ∈ TT) (hr : Y.2.2 ci j = none) (hf : (T j).2.2.2 = false) (htj : ty j = .boolean) (d : decode cc pc = .ok (.putfield idx, 3)) (h : ∀ τ, J Y X nL (k τ) (pc + 3) L st τ) : J Y X nL (ck (okZ v) (lt (stM σ q j v) k)) pc L (.int v :: .ref (adX X q) :: st) σ := by
  by_cases hv : okZ v
  · rw [show ck (okZ v) (lt (stM σ q j v) k) = k (stM σ q j v) from if_pos hv]
    refine j_putV C hc hk hq j hj hl9 hr hf htj ?_ ?_ d (h _)
    · rcases hv with rfl | rfl <;> rfl
    · rcases hv with rfl | rfl <;> rfl
  · rw [show ck (okZ v) (lt (stM σ q j v) k) = none from if_neg hv]
    exact j_none
/-! arrays -/
theorem ck_pos {c : Prop} [Decidable c] {x : ω} (h : ck c E = some x) : c ∧ E = some x := by
  unfold ck at h
  by_cases hc : c
  · rw [if_pos hc] at h; exact ⟨hc, h⟩
  · rw [if_neg hc] at h; cases h
theorem j_iald (C : Cx Y X nL cc own rt rm) {q n o : Nat} {i : Int32} (hk : Y.2.1 q = (1, n, o)) (hq : q < Y.1) (d : decode cc pc = .ok (.iaload, 1)) (h : J Y X nL E (pc + 1) L (.int (σ q i.toNatClampNeg) :: st) σ) : J Y X nL (ck (inb i n) E) pc L (.int i :: .ref (adX X q) :: st) σ := by
  intro x hx H locs ls hl hP hS
  obtain ⟨hi, hx⟩ := ck_pos hx
  obtain ⟨c1, c2, -, c4, c5, -, -, -, c9, c10, -⟩ := C
  have hg := wsY_get (Y := Y) (dA := X.2.2.1.2.1) (ad := X.2.2.1.2.2) (σ := σ) hq
  rw [cellY_int hk] at hg
  exact va_iald c1 c2 c9 hP q 0 hg rfl (inb_in hi) d (h x hx H locs ls hl hP hS)
theorem j_zald (C : Cx Y X nL cc own rt rm) {q n o : Nat} {i : Int32} (hk : Y.2.1 q = (2, n, o)) (hq : q < Y.1) (d : decode cc pc = .ok (.baload, 1)) (h : J Y X nL E (pc + 1) L (.int (σ q i.toNatClampNeg) :: st) σ) : J Y X nL (ck (inb i n) E) pc L (.int i :: .ref (adX X q) :: st) σ := by
  intro x hx H locs ls hl hP hS
  obtain ⟨hi, hx⟩ := ck_pos hx
  obtain ⟨c1, c2, -, c4, c5, -, -, -, c9, c10, -⟩ := C
  have hg := wsY_get (Y := Y) (dA := X.2.2.1.2.1) (ad := X.2.2.1.2.2) (σ := σ) hq
  rw [cellY_bool hk] at hg
  exact va_zald c1 c2 c9 hP q 1 hg rfl (inb_in hi) d (h x hx H locs ls hl hP hS)
theorem j_iast (C : Cx Y X nL cc own rt rm) {q n o : Nat} {i v : Int32} {k : Mem → Option ω} (hk : Y.2.1 q = (1, n, o)) (hq : q < Y.1) (d : decode cc pc = .ok (.iastore, 1)) (h : ∀ τ, J Y X nL (k τ) (pc + 1) L st τ) : J Y X nL (ck (inb i n) (lt (stM σ q i.toNatClampNeg v) k)) pc L (.int v :: .int i :: .ref (adX X q) :: st) σ := by
  intro x hx H locs ls hl hP hS
  obtain ⟨hi, hx⟩ := ck_pos hx
  obtain ⟨c1, c2, -, c4, c5, -, -, -, c9, c10, -⟩ := C
  have hg := wsY_get (Y := Y) (dA := X.2.2.1.2.1) (ad := X.2.2.1.2.2) (σ := σ) hq
  rw [cellY_int hk] at hg
  refine va_iast c1 c2 c9 hP (c10.D σ _) hS q 0 hg rfl (inb_in hi) d (fun H1 locs1 hP1 _ hS1 => ?_)
  rw [wsY_arr hq hk] at hP1
  exact h _ x hx H1 locs1 ls hl hP1 hS1
theorem j_zast (C : Cx Y X nL cc own rt rm) {q n o : Nat} {i v : Int32} {k : Mem → Option ω} (hk : Y.2.1 q = (2, n, o)) (hq : q < Y.1) (d : decode cc pc = .ok (.bastore, 1)) (h : ∀ τ, J Y X nL (k τ) (pc + 1) L st τ) : J Y X nL (ck (inb i n ∧ okZ v) (lt (stM σ q i.toNatClampNeg v) k)) pc L (.int v :: .int i :: .ref (adX X q) :: st) σ := by
  intro x hx H locs ls hl hP hS
  obtain ⟨⟨hi, hz⟩, hx⟩ := ck_pos hx
  obtain ⟨c1, c2, -, c4, c5, -, -, -, c9, c10, -⟩ := C
  have hg := wsY_get (Y := Y) (dA := X.2.2.1.2.1) (ad := X.2.2.1.2.2) (σ := σ) hq
  rw [cellY_bool hk] at hg
  have hv : vp_nar .boolean v = v := by rcases hz with rfl | rfl <;> rfl
  refine va_zast c1 c2 c9 hP (c10.D σ _) hS q 1 hg rfl (inb_in hi) d (fun H1 locs1 hP1 _ hS1 => ?_)
  rw [hv, wsY_barr hq hk] at hP1
  exact h _ x hx H1 locs1 ls hl hP1 hS1
theorem inb_nat {i : Int32} {n : Nat} (h : inb i n) : i.toNatClampNeg < n := by
  have : i.toNatClampNeg = i.toInt.toNat := rfl
  rw [this]
  have := h.1
  have := h.2
  omega
theorem j_aald3 (C : Cx Y X nL cc own rt rm) {q n o : Nat} {i : Int32} {k : Nat → Option ω} (hk : Y.2.1 q = (3, n, o)) (hq : q < Y.1) (d : decode cc pc = .ok (.aaload, 1)) (h : ∀ z, (∃ j, j < n ∧ z = q + o + 2 * j) → J Y X nL (k z) (pc + 1) L (.ref (adX X z) :: st) σ) : J Y X nL (ck (inb i n) (lt (q + o + 2 * i.toNatClampNeg) k)) pc L (.int i :: .ref (adX X q) :: st) σ := by
  intro x hx H locs ls hl hP hS
  obtain ⟨hi, hx⟩ := ck_pos hx
  obtain ⟨c1, c2, -, c4, c5, -, -, -, c9, c10, -⟩ := C
  have hg := wsY_get (Y := Y) (dA := X.2.2.1.2.1) (ad := X.2.2.1.2.2) (σ := σ) hq
  rw [cellY_r3 hk] at hg
  exact va_aldq c1 c2 c9 hP q 2 hg rfl (inb_in hi) d (h _ ⟨i.toNatClampNeg, inb_nat hi, rfl⟩ x hx H locs ls hl hP hS)
theorem j_aald4 (C : Cx Y X nL cc own rt rm) {q n o : Nat} {i : Int32} {k : Nat → Option ω} (hk : Y.2.1 q = (4, n, o)) (hq : q < Y.1) (d : decode cc pc = .ok (.aaload, 1)) (h : ∀ z, (∃ j, j < n ∧ z = q + o + j) → J Y X nL (k z) (pc + 1) L (.ref (adX X z) :: st) σ) : J Y X nL (ck (inb i n) (lt (q + o + i.toNatClampNeg) k)) pc L (.int i :: .ref (adX X q) :: st) σ := by
  intro x hx H locs ls hl hP hS
  obtain ⟨hi, hx⟩ := ck_pos hx
  obtain ⟨c1, c2, -, c4, c5, -, -, -, c9, c10, -⟩ := C
  have hg := wsY_get (Y := Y) (dA := X.2.2.1.2.1) (ad := X.2.2.1.2.2) (σ := σ) hq
  rw [cellY_r4 hk] at hg
  exact va_aldq c1 c2 c9 hP q 3 hg rfl (inb_in hi) d (h _ ⟨i.toNatClampNeg, inb_nat hi, rfl⟩ x hx H locs ls hl hP hS)
theorem j_alen (C : Cx Y X nL cc own rt rm) {q n o : Nat} {v : Int32} (hk : Y.2.1 q = (1, n, o)) (hq : q < Y.1) (hv : Int32.ofNat n = v) (d : decode cc pc = .ok (.arraylength, 1)) (h : J Y X nL E (pc + 1) L (.int v :: st) σ) : J Y X nL E pc L (.ref (adX X q) :: st) σ := by
  intro x hx H locs ls hl hP hS
  obtain ⟨c1, c2, -, c4, c5, -, -, -, c9, c10, -⟩ := C
  have hg := wsY_get (Y := Y) (dA := X.2.2.1.2.1) (ad := X.2.2.1.2.2) (σ := σ) hq
  rw [cellY_int hk] at hg
  exact va_alen c1 c2 c9 hP q 0 hg rfl hv d (h x hx H locs ls hl hP hS)
/-! statics -/
def TbX (Y : Lay) (X : CtxT ω) (t N : Nat) (f : Nat → Int32) : Prop := va_T .int t N (fun j => .int (f j)) (AY Y X.2.2.1.2.2 X.1.2.2.2.2.heap.size) X.1.2.2.2.2 X.1.2.2.2.2.heap
theorem j_gets (C : Cx Y X nL cc own rt rm) {nm : String} {N idx : Nat} {f : Nat → Int32} (hO : stO "StageHouse" nm N f (AY Y X.2.2.1.2.2 X.1.2.2.2.2.heap.size) X.1.2.2.2.2 X.1.2.2.2.2.heap) (hw : Cond.fieldLinkNest own idx "StageHouse" nm "[I" "StageHouse" ∈ TT) (d : decode cc pc = .ok (.getstatic idx, 3)) (h : ∀ t, TbX Y X t N f → J Y X nL E (pc + 3) L (.ref t :: st) σ) : J Y X nL E pc L st σ := by
  intro x hx H locs ls hl hP hS
  obtain ⟨c1, c2, -, c4, c5, -, -, -, c9, c10, -⟩ := C
  obtain ⟨t, hZ, hT⟩ := hO
  exact va_getsN c1 c2 hZ hS c4 (c5 _ hw) (fun _ h9 => h9) d (h t hT x hx H locs ls hl hP hS)
theorem j_tald (C : Cx Y X nL cc own rt rm) {t N : Nat} {f : Nat → Int32} {i : Int32} (hT : TbX Y X t N f) (d : decode cc pc = .ok (.iaload, 1)) (h : J Y X nL E (pc + 1) L (.int (f i.toNatClampNeg) :: st) σ) : J Y X nL (ck (inb i N) E) pc L (.int i :: .ref t :: st) σ := by
  intro x hx H locs ls hl hP hS
  obtain ⟨hi, hx⟩ := ck_pos hx
  obtain ⟨c1, c2, -⟩ := C
  exact va_ti c1 c2 hT hS (inb_in hi) rfl d (h x hx H locs ls hl hP hS)
theorem j_tlen (C : Cx Y X nL cc own rt rm) {t N : Nat} {f : Nat → Int32} {v : Int32} (hT : TbX Y X t N f) (hv : Int32.ofNat N = v) (d : decode cc pc = .ok (.arraylength, 1)) (h : J Y X nL E (pc + 1) L (.int v :: st) σ) : J Y X nL E pc L (.ref t :: st) σ := by
  intro x hx H locs ls hl hP hS
  obtain ⟨c1, c2, -⟩ := C
  exact va_tlen c1 c2 hT hS hv d (h x hx H locs ls hl hP hS)
theorem j_acmp_eq (C : Cx Y X nL cc own rt rm) {a b : Nat} {off : Int} {tgt : Nat} (ha : a < Y.1) (hb : b < Y.1) (d : decode cc pc = .ok (.if_acmp .eq off, 3)) (ht : (pc : Int) + off = (tgt : Int)) (h1 : J Y X nL E1 tgt L st σ) (h2 : J Y X nL E2 (pc + 3) L st σ) : J Y X nL (if a = b then E1 else E2) pc L (.ref (adX X b) :: .ref (adX X a) :: st) σ := by
  intro x hx H locs ls hl hP hS
  obtain ⟨c1, c2, -, c4, c5, -, -, -, c9, c10, -⟩ := C
  refine lv_acmp_eq (rx := some (adX X a)) (ry := some (adX X b)) c1 c2 d ht (fun hc => ?_) (fun hc => ?_)
  · have e : a = b := c10 a b ha hb (Option.some.inj hc)
    rw [if_pos e] at hx
    exact h1 x hx H locs ls hl hP hS
  · have e : ¬ a = b := fun q => hc (by rw [q])
    rw [if_neg e] at hx
    exact h2 x hx H locs ls hl hP hS
end JR
end
section
/-! ===== calls, copies, returns, a method's contract ===== -/
theorem AY_up {Y : Lay} {ad : Nat → Nat} {a b : Nat} (h : a ≤ b) : ∀ q, AY Y ad b q → AY Y ad a q := fun q hq => hq.elim Or.inl (fun h2 => Or.inr (Nat.le_trans h h2))
theorem PreY_blind {Y : Lay} {D : va_G} {dA : Nat → ClassId} {ad : Nat → Nat} {σ : Mem} {sz : Nat} {av : List Value} : FrameBlind (va_Pc av (PreY Y D dA ad σ sz)) := fun a U g mk q => ⟨q.1, q.2.1, q.2.2.1, va_K.moved (u := U) (U := U.calling g mk a) (Vm.Alike.refl U.vm) q.2.2.2.1, q.2.2.2.2.1, q.2.2.2.2.2.via (U := U.calling g mk a) (Vm.Alike.refl U.vm) (fun _ _ _ => rfl) (fun _ h => h)⟩
theorem PreY_at {Y : Lay} {D : va_G} {dA : Nat → ClassId} {ad : Nat → Nat} {σ : Mem} {s U : State} {H : Heap} {locs : List Loc} (hP : va_P D vwCl (wsY Y dA ad σ) H) (hK : va_K D vwCl (tysY dA) s) (hD : adOK Y ad) (hst : stOK (AY Y ad s.heap.size) s s.heap) (hS : va_S (AY Y ad s.heap.size) s.heap H locs) (hU : U.heap = H) (hW : s.WarmedH U.vm) : PreY Y D dA ad σ H.size U :=
  ⟨by rw [hU], by rw [hU]; exact hP, va_K.moved hW.alike hK, hD, hst.via hW.alike (fun a h1 h2 => by rw [hU]; exact hS.2.1 a h1 h2) (AY_up hS.1)⟩
/-- a call's words: an instance method, a static one, a nest mate's static one -/
def CwV (own : String) (idx : Nat) (Cn : String) (y : MethodName) (cc : ByteArray) (nL : Nat) (rt : Option FieldType) (n : Nat) : Prop := GoodIn TT (wsV own idx Cn y (wT y cc nL rt)) ∧ (y.cls = Cn ∧ y.cls ≠ "java/lang/invoke/MethodHandle" ∧ y.cls ≠ "java/lang/invoke/VarHandle" ∧ (parseMethodDescriptor y.desc).map (fun d => d.parameters.length) = some n)
def CwS (own : String) (idx : Nat) (y : MethodName) (cc : ByteArray) (nL : Nat) (rt : Option FieldType) (n : Nat) : Prop := GoodIn TT (va_wsS own idx y (wT y cc nL rt)) ∧ (y.cls ≠ "java/lang/invoke/MethodHandle" ∧ y.cls ≠ "java/lang/invoke/VarHandle" ∧ (parseMethodDescriptor y.desc).map (fun d => d.parameters.length) = some n)
def CwN (own : String) (idx : Nat) (y : MethodName) (host : String) (cc : ByteArray) (nL : Nat) (rt : Option FieldType) (n : Nat) : Prop := GoodIn TT (wT y cc nL rt) ∧ Cond.methodLinkNest own idx y host ∈ TT ∧ Cond.initialized y.cls ∈ TT ∧ Cond.static y ∈ TT ∧ (y.cls ≠ "java/lang/invoke/MethodHandle" ∧ y.cls ≠ "java/lang/invoke/VarHandle" ∧ (parseMethodDescriptor y.desc).map (fun d => d.parameters.length) = some n)
theorem good_TT (ws : List Cond) (h : ∀ w ∈ ws, w ∈ TT) : GoodIn TT ws := fun w hw => ⟨h w hw, good_of_word (TT_good w (h w hw))⟩
theorem CwV_of {own : String} {idx : Nat} {Cn : String} {y : MethodName} {cc : ByteArray} {nL : Nat} {rt : Option FieldType} {n : Nat} (h1 : Cond.methodLink own idx y ∈ TT) (h2 : Cond.instanceMethod y ∈ TT) (h3 : Cond.selects Cn y y ∈ TT) (h4 : Cond.initialized Cn ∈ TT) (h5 : Cond.code y cc nL rt ∈ TT) (hd : y.cls = Cn ∧ y.cls ≠ "java/lang/invoke/MethodHandle" ∧ y.cls ≠ "java/lang/invoke/VarHandle" ∧ (parseMethodDescriptor y.desc).map (fun d => d.parameters.length) = some n) : CwV own idx Cn y cc nL rt n := by
  refine ⟨good_TT _ ?_, hd⟩
  intro w hw
  simp only [wsV, wT, List.mem_append, List.mem_cons, List.not_mem_nil, or_false] at hw
  rcases hw with (rfl | rfl | rfl | rfl) | rfl | h
  · exact h1
  · exact h2
  · exact h3
  · exact h4
  · exact h5
  · exact h
theorem CwS_of {own : String} {idx : Nat} {y : MethodName} {cc : ByteArray} {nL : Nat} {rt : Option FieldType} {n : Nat} (h1 : Cond.methodLink own idx y ∈ TT) (h2 : Cond.static y ∈ TT) (h4 : Cond.initialized y.cls ∈ TT) (h5 : Cond.code y cc nL rt ∈ TT) (hd : y.cls ≠ "java/lang/invoke/MethodHandle" ∧ y.cls ≠ "java/lang/invoke/VarHandle" ∧ (parseMethodDescriptor y.desc).map (fun d => d.parameters.length) = some n) : CwS own idx y cc nL rt n := by
  refine ⟨good_TT _ ?_, hd⟩
  intro w hw
  simp only [va_wsS, wT, List.mem_append, List.mem_cons, List.not_mem_nil, or_false] at hw
  rcases hw with (rfl | rfl | rfl) | rfl | h
  · exact h1
  · exact h2
  · exact h4
  · exact h5
  · exact h
theorem CwN_of {own : String} {idx : Nat} {y : MethodName} {host : String} {cc : ByteArray} {nL : Nat} {rt : Option FieldType} {n : Nat} (h1 : Cond.methodLinkNest own idx y host ∈ TT) (h2 : Cond.static y ∈ TT) (h4 : Cond.initialized y.cls ∈ TT) (h5 : Cond.code y cc nL rt ∈ TT) (hd : y.cls ≠ "java/lang/invoke/MethodHandle" ∧ y.cls ≠ "java/lang/invoke/VarHandle" ∧ (parseMethodDescriptor y.desc).map (fun d => d.parameters.length) = some n) : CwN own idx y host cc nL rt n := by
  refine ⟨good_TT _ ?_, h1, h4, h2, hd⟩
  intro w hw
  rcases List.mem_cons.mp hw with rfl | h
  · exact h5
  · exact h
/-- a callee's room within the caller's -/
def rmIn (a : Room) (nL : Nat) (b : Room) : Prop := a.cells = 0 ∧ a.slots = 0 ∧ a.frames + 1 ≤ b.frames ∧ 8 + (nL + 11) + a.locals ≤ b.locals
section JC
variable {ω : Type} {Y : Lay} {X : CtxT ω} {nL : Nat} {cc : ByteArray} {own : String} {rt : Option FieldType} {rm : Room} {E E1 E2 : Option ω} {pc : Nat} {L L' : List (Nat × Value)} {st rest As : List Value} {σ : Mem}
theorem bd_some {o : Option (Int32 × Mem)} {k : Int32 → Mem → Option ω} {x : ω} (h : bd o k = some x) : ∃ y, o = some y ∧ k y.1 y.2 = some x := by
  cases o with
  | none => cases h
  | some y => exact ⟨y, rfl, h⟩
theorem bv_some {o : Option Mem} {k : Mem → Option ω} {x : ω} (h : bv o k = some x) : ∃ y, o = some y ∧ k y = some x := by
  cases o with
  | none => cases h
  | some y => exact ⟨y, rfl, h⟩

theorem j_callVi (C : Cx Y X nL cc own rt rm) {y : MethodName} {ccy : ByteArray} {nLy idx : Nat} {rty : Option FieldType} {rmy : Room} {av : (Nat → Nat) → List Value} {E0 : Option (Int32 × Mem)} {k : Int32 → Mem → Option ω} {ci N n : Nat} {Cn : String} {T : u_T} {ty : Nat → FieldType} (hM : CTi Y y ccy nLy rty rmy av σ E0) (hw : CwV own idx Cn y ccy nLy rty n) (hR : rmIn rmy nLy rm) (q : Nat) (hc : KI ci Cn T N ty) (hk : Y.2.1 q = (0, ci, N)) (hq : q < Y.1) (As rest : List Value) (hav : av (adX X) = .ref (adX X q) :: As) (hn : As.length = n) (hst : st = As.reverse ++ .ref (adX X q) :: rest) (hs8 : (rest.map fun v => v.category).sum ≤ 8) (d : decode cc pc = .ok (.invokevirtual idx, 3)) (h : ∀ r τ, J Y X nL (k r τ) (pc + 3) L (.int r :: rest) τ) : J Y X nL (bd E0 k) pc L st σ := by
  intro x hx H locs ls hl hP hS
  obtain ⟨y0, hE, hx⟩ := bd_some hx
  obtain ⟨c1, c2, c3, c4, c5, c6, c7, c8, c9, c10, c11⟩ := C
  obtain ⟨r1, r2, r3, r4⟩ := hR
  rw [← c8] at r3 r4
  have hMet := hM X.1.2.1 X.2.2.1.1 X.2.2.1.2.1 X.2.2.1.2.2 H.size y0 hE
  rw [show av X.2.2.1.2.2 = _ from hav] at hMet
  subst hst
  have hg := wsY_get (Y := Y) (dA := X.2.2.1.2.1) (ad := X.2.2.1.2.2) (σ := σ) hq
  rw [cellY_obj hk] at hg
  refine va_calli (va_runV (g := F0 X.2.1.1 pc ls (As.reverse ++ .ref (adX X q) :: rest)) (As := As) (rest := rest) ⟨c1, c2, c3, c4, c5⟩ hMet (cwV n c5 hw.1 rfl r1 r2 hw.2 ⟨r3, r4⟩) ⟨PreY_blind, va_recv c9 hP hc.1 hg, fun U hU hW => ⟨rfl, PreY_at hP c9 c10 c11 hS hU hW⟩⟩ rfl hn hl.1 rfl (lv_room hs8) d ⟨Nat.zero_le _, Nat.zero_le _⟩) hS (fun q _ h => AY_up hS.1 q h) (AY_up hS.1) (fun r u t H1 locs1 ht hvm hpost hB hz hk1 hS1 => ?_)
  obtain ⟨hP1, -⟩ := hB
  rw [ht] at hP1
  subst hpost
  exact h r u x hx H1 locs1 ls hl hP1 hS1
theorem j_callVn (C : Cx Y X nL cc own rt rm) {y : MethodName} {ccy : ByteArray} {nLy idx : Nat} {rty : Option FieldType} {rmy : Room} {av : (Nat → Nat) → List Value} {E0 : Option Mem} {k : Mem → Option ω} {ci N n : Nat} {Cn : String} {T : u_T} {ty : Nat → FieldType} (hM : CTn Y y ccy nLy rty rmy av σ E0) (hw : CwV own idx Cn y ccy nLy rty n) (hR : rmIn rmy nLy rm) (q : Nat) (hc : KI ci Cn T N ty) (hk : Y.2.1 q = (0, ci, N)) (hq : q < Y.1) (As rest : List Value) (hav : av (adX X) = .ref (adX X q) :: As) (hn : As.length = n) (hst : st = As.reverse ++ .ref (adX X q) :: rest) (hs8 : (rest.map fun v => v.category).sum ≤ 8) (d : decode cc pc = .ok (.invokevirtual idx, 3)) (h : ∀ τ, J Y X nL (k τ) (pc + 3) L rest τ) : J Y X nL (bv E0 k) pc L st σ := by
  intro x hx H locs ls hl hP hS
  obtain ⟨y0, hE, hx⟩ := bv_some hx
  obtain ⟨c1, c2, c3, c4, c5, c6, c7, c8, c9, c10, c11⟩ := C
  obtain ⟨r1, r2, r3, r4⟩ := hR
  rw [← c8] at r3 r4
  have hMet := hM X.1.2.1 X.2.2.1.1 X.2.2.1.2.1 X.2.2.1.2.2 H.size y0 hE
  rw [show av X.2.2.1.2.2 = _ from hav] at hMet
  subst hst
  have hg := wsY_get (Y := Y) (dA := X.2.2.1.2.1) (ad := X.2.2.1.2.2) (σ := σ) hq
  rw [cellY_obj hk] at hg
  refine va_callv (va_runV (g := F0 X.2.1.1 pc ls (As.reverse ++ .ref (adX X q) :: rest)) (As := As) (rest := rest) ⟨c1, c2, c3, c4, c5⟩ hMet (cwV n c5 hw.1 rfl r1 r2 hw.2 ⟨r3, r4⟩) ⟨PreY_blind, va_recv c9 hP hc.1 hg, fun U hU hW => ⟨rfl, PreY_at hP c9 c10 c11 hS hU hW⟩⟩ rfl hn hl.1 rfl (lv_room hs8) d ⟨Nat.zero_le _, Nat.zero_le _⟩) hS (fun q _ h => AY_up hS.1 q h) (AY_up hS.1) (fun u t H1 locs1 ht hvm hpost hB hz hk1 hS1 => ?_)
  obtain ⟨hP1, -⟩ := hB
  rw [ht] at hP1
  subst hpost
  exact h u x hx H1 locs1 ls hl hP1 hS1
theorem j_callSi (C : Cx Y X nL cc own rt rm) {y : MethodName} {ccy : ByteArray} {nLy idx : Nat} {rty : Option FieldType} {rmy : Room} {av : (Nat → Nat) → List Value} {E0 : Option (Int32 × Mem)} {k : Int32 → Mem → Option ω} {n : Nat} (hM : CTi Y y ccy nLy rty rmy av σ E0) (hw : CwS own idx y ccy nLy rty n) (hR : rmIn rmy nLy rm) (As rest : List Value) (hav : av (adX X) = As) (hn : As.length = n) (hst : st = As.reverse ++ rest) (hs8 : (rest.map fun v => v.category).sum ≤ 8) (d : decode cc pc = .ok (.invokestatic idx, 3)) (h : ∀ r τ, J Y X nL (k r τ) (pc + 3) L (.int r :: rest) τ) : J Y X nL (bd E0 k) pc L st σ := by
  intro x hx H locs ls hl hP hS
  obtain ⟨y0, hE, hx⟩ := bd_some hx
  obtain ⟨c1, c2, c3, c4, c5, c6, c7, c8, c9, c10, c11⟩ := C
  obtain ⟨r1, r2, r3, r4⟩ := hR
  rw [← c8] at r3 r4
  have hMet := hM X.1.2.1 X.2.2.1.1 X.2.2.1.2.1 X.2.2.1.2.2 H.size y0 hE
  rw [show av X.2.2.1.2.2 = _ from hav] at hMet
  subst hst
  refine va_calli (va_runS (g := F0 X.2.1.1 pc ls (As.reverse ++ rest)) (As := As) (rest := rest) ⟨c1, c2, c3, c4, c5⟩ hMet (va_cwS n c5 hw.1 rfl r1 r2 hw.2 ⟨r3, r4⟩) ⟨PreY_blind, fun U hU hW => ⟨rfl, PreY_at hP c9 c10 c11 hS hU hW⟩⟩ rfl hn hl.1 rfl (lv_room hs8) d ⟨Nat.zero_le _, Nat.zero_le _⟩) hS (fun q _ h => AY_up hS.1 q h) (AY_up hS.1) (fun r u t H1 locs1 ht hvm hpost hB hz hk1 hS1 => ?_)
  obtain ⟨hP1, -⟩ := hB
  rw [ht] at hP1
  subst hpost
  exact h r u x hx H1 locs1 ls hl hP1 hS1
theorem j_callSn (C : Cx Y X nL cc own rt rm) {y : MethodName} {ccy : ByteArray} {nLy idx : Nat} {rty : Option FieldType} {rmy : Room} {av : (Nat → Nat) → List Value} {E0 : Option Mem} {k : Mem → Option ω} {n : Nat} (hM : CTn Y y ccy nLy rty rmy av σ E0) (hw : CwS own idx y ccy nLy rty n) (hR : rmIn rmy nLy rm) (As rest : List Value) (hav : av (adX X) = As) (hn : As.length = n) (hst : st = As.reverse ++ rest) (hs8 : (rest.map fun v => v.category).sum ≤ 8) (d : decode cc pc = .ok (.invokestatic idx, 3)) (h : ∀ τ, J Y X nL (k τ) (pc + 3) L rest τ) : J Y X nL (bv E0 k) pc L st σ := by
  intro x hx H locs ls hl hP hS
  obtain ⟨y0, hE, hx⟩ := bv_some hx
  obtain ⟨c1, c2, c3, c4, c5, c6, c7, c8, c9, c10, c11⟩ := C
  obtain ⟨r1, r2, r3, r4⟩ := hR
  rw [← c8] at r3 r4
  have hMet := hM X.1.2.1 X.2.2.1.1 X.2.2.1.2.1 X.2.2.1.2.2 H.size y0 hE
  rw [show av X.2.2.1.2.2 = _ from hav] at hMet
  subst hst
  refine va_callv (va_runS (g := F0 X.2.1.1 pc ls (As.reverse ++ rest)) (As := As) (rest := rest) ⟨c1, c2, c3, c4, c5⟩ hMet (va_cwS n c5 hw.1 rfl r1 r2 hw.2 ⟨r3, r4⟩) ⟨PreY_blind, fun U hU hW => ⟨rfl, PreY_at hP c9 c10 c11 hS hU hW⟩⟩ rfl hn hl.1 rfl (lv_room hs8) d ⟨Nat.zero_le _, Nat.zero_le _⟩) hS (fun q _ h => AY_up hS.1 q h) (AY_up hS.1) (fun u t H1 locs1 ht hvm hpost hB hz hk1 hS1 => ?_)
  obtain ⟨hP1, -⟩ := hB
  rw [ht] at hP1
  subst hpost
  exact h u x hx H1 locs1 ls hl hP1 hS1
theorem j_callNi (C : Cx Y X nL cc own rt rm) {y : MethodName} {ccy : ByteArray} {nLy idx : Nat} {rty : Option FieldType} {rmy : Room} {av : (Nat → Nat) → List Value} {E0 : Option (Int32 × Mem)} {k : Int32 → Mem → Option ω} {n : Nat} {host : String} (hM : CTi Y y ccy nLy rty rmy av σ E0) (hw : CwN own idx y host ccy nLy rty n) (hR : rmIn rmy nLy rm) (As rest : List Value) (hav : av (adX X) = As) (hn : As.length = n) (hst : st = As.reverse ++ rest) (hs8 : (rest.map fun v => v.category).sum ≤ 8) (d : decode cc pc = .ok (.invokestatic idx, 3)) (h : ∀ r τ, J Y X nL (k r τ) (pc + 3) L (.int r :: rest) τ) : J Y X nL (bd E0 k) pc L st σ := by
  intro x hx H locs ls hl hP hS
  obtain ⟨y0, hE, hx⟩ := bd_some hx
  obtain ⟨c1, c2, c3, c4, c5, c6, c7, c8, c9, c10, c11⟩ := C
  obtain ⟨r1, r2, r3, r4⟩ := hR
  rw [← c8] at r3 r4
  have hMet := hM X.1.2.1 X.2.2.1.1 X.2.2.1.2.1 X.2.2.1.2.2 H.size y0 hE
  rw [show av X.2.2.1.2.2 = _ from hav] at hMet
  subst hst
  refine va_calli (va_runSN (g := F0 X.2.1.1 pc ls (As.reverse ++ rest)) (As := As) (rest := rest) ⟨c1, c2, c3, c4, c5⟩ hMet ⟨va_cnB n c5 hw.1 rfl r1 r2 (va_tabs rfl rfl (c5 _ hw.2.1)) (c5 _ hw.2.2.1) hw.2.2.2.2 ⟨r3, r4⟩, c5 _ hw.2.2.2.1, trivial⟩ ⟨PreY_blind, fun U hU hW => ⟨rfl, PreY_at hP c9 c10 c11 hS hU hW⟩⟩ rfl hn hl.1 rfl (lv_room hs8) d ⟨Nat.zero_le _, Nat.zero_le _⟩) hS (fun q _ h => AY_up hS.1 q h) (AY_up hS.1) (fun r u t H1 locs1 ht hvm hpost hB hz hk1 hS1 => ?_)
  obtain ⟨hP1, -⟩ := hB
  rw [ht] at hP1
  subst hpost
  exact h r u x hx H1 locs1 ls hl hP1 hS1
theorem j_mmax (C : Cx Y X nL cc own rt rm) {idx : Nat} {a b : Int32} (hw : Cond.methodLink own idx Lib.Math.max.name ∈ TT ∧ Cond.static Lib.Math.max.name ∈ TT ∧ Cond.initialized "java/lang/Math" ∈ TT ∧ Cond.code Lib.Math.max.name Lib.Math.max.code 2 (some .int) ∈ TT) (hR : 1 ≤ rm.frames ∧ 21 ≤ rm.locals) (hs8 : (st.map fun v => v.category).sum ≤ 8) (d : decode cc pc = .ok (.invokestatic idx, 3)) (h : J Y X nL E (pc + 3) L (.int (if a < b then b else a) :: st) σ) : J Y X nL E pc L (.int b :: .int a :: st) σ := by
  intro x hx H locs ls hl hP hS
  obtain ⟨c1, c2, c3, c4, c5, c6, c7, c8, c9, c10, c11⟩ := C
  rw [← c8] at hR
  exact va_mmax c1 c2 (by rw [c3]; exact hl.1.symm) c4 (c5 _ hw.1) (c5 _ hw.2.1) (c5 _ hw.2.2.1) (c5 _ hw.2.2.2) hR.1 (by omega) (Nat.zero_le _) (Nat.zero_le _) d (h x hx H locs ls hl hP hS)
theorem j_mmin (C : Cx Y X nL cc own rt rm) {idx : Nat} {a b : Int32} (hw : Cond.methodLink own idx Lib.Math.min.name ∈ TT ∧ Cond.static Lib.Math.min.name ∈ TT ∧ Cond.initialized "java/lang/Math" ∈ TT ∧ Cond.code Lib.Math.min.name Lib.Math.min.code 2 (some .int) ∈ TT) (hR : 1 ≤ rm.frames ∧ 21 ≤ rm.locals) (hs8 : (st.map fun v => v.category).sum ≤ 8) (d : decode cc pc = .ok (.invokestatic idx, 3)) (h : J Y X nL E (pc + 3) L (.int (if b < a then b else a) :: st) σ) : J Y X nL E pc L (.int b :: .int a :: st) σ := by
  intro x hx H locs ls hl hP hS
  obtain ⟨c1, c2, c3, c4, c5, c6, c7, c8, c9, c10, c11⟩ := C
  rw [← c8] at hR
  exact va_mmin c1 c2 (by rw [c3]; exact hl.1.symm) c4 (c5 _ hw.1) (c5 _ hw.2.1) (c5 _ hw.2.2.1) (c5 _ hw.2.2.2) hR.1 (by omega) (Nat.zero_le _) (Nat.zero_le _) d (h x hx H locs ls hl hP hS)
theorem j_mabs (C : Cx Y X nL cc own rt rm) {idx : Nat} {a : Int32} (hw : Cond.methodLink own idx Lib.Math.abs.name ∈ TT ∧ Cond.static Lib.Math.abs.name ∈ TT ∧ Cond.initialized "java/lang/Math" ∈ TT ∧ Cond.code Lib.Math.abs.name Lib.Math.abs.code 1 (some .int) ∈ TT) (hR : 1 ≤ rm.frames ∧ 21 ≤ rm.locals) (hs8 : (st.map fun v => v.category).sum ≤ 8) (d : decode cc pc = .ok (.invokestatic idx, 3)) (h : J Y X nL E (pc + 3) L (.int (if 0 ≤ a then a else 0 - a) :: st) σ) : J Y X nL E pc L (.int a :: st) σ := by
  intro x hx H locs ls hl hP hS
  obtain ⟨c1, c2, c3, c4, c5, c6, c7, c8, c9, c10, c11⟩ := C
  rw [← c8] at hR
  exact va_mabs c1 c2 (by rw [c3]; exact hl.1.symm) c4 (c5 _ hw.1) (c5 _ hw.2.1) (c5 _ hw.2.2.1) (c5 _ hw.2.2.2) hR.1 (by omega) (Nat.zero_le _) (Nat.zero_le _) d (h x hx H locs ls hl hP hS)
abbrev cpOK (sp dp n : Int32) (n0 n1 : Nat) : Prop := ¬ sp < 0 ∧ ¬ dp < 0 ∧ ¬ n < 0 ∧ sp.toNatClampNeg + n.toNatClampNeg ≤ n0 ∧ dp.toNatClampNeg + n.toNatClampNeg ≤ n1
theorem j_copy (C : Cx Y X nL cc own rt rm) {idx q0 q1 n0 n1 o0 o1 : Nat} {sp dp n : Int32} {k : Mem → Option ω} (hw : Cond.methodLink own idx arraycopyName ∈ TT ∧ Cond.native arraycopyName ∈ TT ∧ Cond.static arraycopyName ∈ TT ∧ Cond.initialized "java/lang/System" ∈ TT) (hR : 1 ≤ rm.frames ∧ 8 + (nativeFrameWords "java/lang/System" "arraycopy" 5 + 11) ≤ rm.locals) (hk0 : Y.2.1 q0 = (1, n0, o0)) (hq0 : q0 < Y.1) (hk1 : Y.2.1 q1 = (1, n1, o1)) (hq1 : q1 < Y.1) (hs8 : (st.map fun v => v.category).sum ≤ 8) (d : decode cc pc = .ok (.invokestatic idx, 3)) (h : ∀ τ, J Y X nL (k τ) (pc + 3) L st τ) :
    J Y X nL (ck (cpOK sp dp n n0 n1) (lt (rwM σ q1 (va_cpy (σ q0) (σ q1) sp.toNatClampNeg dp.toNatClampNeg n.toNatClampNeg)) k)) pc L (.int n :: .int dp :: .ref (adX X q1) :: .int sp :: .ref (adX X q0) :: st) σ := by
  intro x hx H locs ls hl hP hS
  obtain ⟨⟨h1, h2, h3, h4, h5⟩, hx⟩ := ck_pos hx
  obtain ⟨c1, c2, c3, c4, c5, c6, c7, c8, c9, c10, c11⟩ := C
  rw [← c8] at hR
  have hg0 := wsY_get (Y := Y) (dA := X.2.2.1.2.1) (ad := X.2.2.1.2.2) (σ := σ) hq0
  have hg1 := wsY_get (Y := Y) (dA := X.2.2.1.2.1) (ad := X.2.2.1.2.2) (σ := σ) hq1
  rw [cellY_int hk0] at hg0
  rw [cellY_int hk1] at hg1
  refine va_copyi c1 c2 (by rw [c3]; exact hl.1.symm) c4 (c5 _ hw.1) (c5 _ hw.2.1) (c5 _ hw.2.2.1) (c5 _ hw.2.2.2) c9 hP (c10.D σ _) hS q0 q1 0 0 hg0 hg1 rfl rfl rfl h1 h2 h3 h4 h5 (fun _ _ => rfl) hR.1 (by omega) d (fun H1 locs1 hP1 _ hS1 => ?_)
  rw [wsY_row hq1 hk1] at hP1
  exact h _ x hx H1 locs1 ls hl hP1 hS1
end JC
section JE
variable {Y : Lay} {nL : Nat} {cc : ByteArray} {own : String} {rt : Option FieldType} {rm : Room} {pc : Nat} {L : List (Nat × Value)} {σ : Mem}
theorem j_iret {X : CtxT (Int32 × Mem)} (C : Cx Y X nL cc own (some .int) rm) (CR : CRi Y X) {v : Int32} (d : decode cc pc = .ok (.ireturn, 1)) : J Y X nL (some (v, σ)) pc L [.int v] σ := by
  intro x hx H locs ls hl hP hS
  obtain ⟨c1, c2, c3, c4, c5, c6, c7, c8, c9, c10, c11⟩ := C
  cases hx
  rw [show X.2.2.2 = _ from CR]
  exact W.iret (v := v) c1 c2 c6 (fun t ht hW => ⟨⟨v, σ, rfl, rfl, by rw [ht]; exact hP, va_K.moved hW.alike c9⟩, hS.F ht⟩) hS.2.2 d c7
theorem j_zret {X : CtxT (Int32 × Mem)} (C : Cx Y X nL cc own (some .boolean) rm) (CR : CRi Y X) {v : Int32} (d : decode cc pc = .ok (.ireturn, 1)) : J Y X nL (ck (okZ v) (some (v, σ))) pc L [.int v] σ := by
  intro x hx H locs ls hl hP hS
  obtain ⟨hz, hx⟩ := ck_pos hx
  obtain ⟨c1, c2, c3, c4, c5, c6, c7, c8, c9, c10, c11⟩ := C
  cases hx
  rw [show X.2.2.2 = _ from CR]
  exact W.zret (v := v) c1 c2 c6 (by rcases hz with rfl | rfl <;> rfl) (fun t ht hW => ⟨⟨v, σ, rfl, rfl, by rw [ht]; exact hP, va_K.moved hW.alike c9⟩, hS.F ht⟩) hS.2.2 d c7
theorem j_vret {X : CtxT Mem} (C : Cx Y X nL cc own none rm) (CR : CRn Y X) (d : decode cc pc = .ok (.return_, 1)) : J Y X nL (some σ) pc L [] σ := by
  intro x hx H locs ls hl hP hS
  obtain ⟨c1, c2, c3, c4, c5, c6, c7, c8, c9, c10, c11⟩ := C
  cases hx
  rw [show X.2.2.2 = _ from CR]
  exact W.vret c1 c2 c6 (fun t ht hW => ⟨⟨σ, rfl, rfl, by rw [ht]; exact hP, va_K.moved hW.alike c9⟩, hS.F ht⟩) hS.2.2 d c7
theorem CTi_of {y : MethodName} {av : (Nat → Nat) → List Value} {E : Option (Int32 × Mem)} (hy : plainName y.cls = true) (hsl : ∀ ad, (lg_sl (av ad)).length ≤ nL) (h : ∀ X : CtxT (Int32 × Mem), Cx Y X nL cc y.cls rt rm → CRi Y X → J Y X nL E 0 (lv_args 0 (av (adX X))) [] σ) : CTi Y y cc nL rt rm av σ E := by
  intro l D dA ad sz x hE
  refine Met.ofW (cc := cc) (maxL := nL) (ret := rt) hy rfl ?_
  intro p e s m args below meth c s₁ B hml hv
  obtain ⟨rfl, hsz, hP, hK, hD, hst⟩ := hv
  subst hsz
  have hts := atoms_spec (ws := wT y cc nL rt) B.pre
  have hl := lv_entry (av ad) (n := nL) (hsl ad)
  rw [lg_entry_eq]
  exact h ((p, l, e, (headSpec (wT y cc nL rt) rm).room, s), (m, (av ad).toArray, below, meth, c), (D, dA, ad), fun x => MQ below (va_Qi (fun r u => (r, u) = x) (PostY Y D dA ad) (AY Y ad s.heap.size)) (av ad).toArray s 0 0 (AY Y ad s.heap.size)) ⟨B.exec, B.bytes, hml, findClass_of_methodNamed B.named, fun w hw => hts w (List.mem_cons_of_mem _ hw), B.returns, B.notSynchronized, rfl, hK, hD, hst⟩ rfl x hE s.heap [] _ hl hP va_S.rf
theorem CTn_of {y : MethodName} {av : (Nat → Nat) → List Value} {E : Option Mem} (hy : plainName y.cls = true) (hsl : ∀ ad, (lg_sl (av ad)).length ≤ nL) (h : ∀ X : CtxT Mem, Cx Y X nL cc y.cls rt rm → CRn Y X → J Y X nL E 0 (lv_args 0 (av (adX X))) [] σ) : CTn Y y cc nL rt rm av σ E := by
  intro l D dA ad sz x hE
  refine Met.ofW (cc := cc) (maxL := nL) (ret := rt) hy rfl ?_
  intro p e s m args below meth c s₁ B hml hv
  obtain ⟨rfl, hsz, hP, hK, hD, hst⟩ := hv
  subst hsz
  have hts := atoms_spec (ws := wT y cc nL rt) B.pre
  have hl := lv_entry (av ad) (n := nL) (hsl ad)
  rw [lg_entry_eq]
  exact h ((p, l, e, (headSpec (wT y cc nL rt) rm).room, s), (m, (av ad).toArray, below, meth, c), (D, dA, ad), fun x => MQ below (va_Qv (fun u => u = x) (PostY Y D dA ad) (AY Y ad s.heap.size)) (av ad).toArray s 0 0 (AY Y ad s.heap.size)) ⟨B.exec, B.bytes, hml, findClass_of_methodNamed B.named, fun w hw => hts w (List.mem_cons_of_mem _ hw), B.returns, B.notSynchronized, rfl, hK, hD, hst⟩ rfl x hE s.heap [] _ hl hP va_S.rf
end JE
end
