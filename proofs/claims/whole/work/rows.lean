section
-- ===== PART A: goes FIRST, ahead of the names: the tables' words, and 'selects' of the private methods out of them =====
/-- a private method of a class that the tables say can be made, by its rows of tables_1 -/
def lw_okq (q : MethodName × Nat) : Prop := (q.1.cls ≠ "java/lang/invoke/MethodHandle" ∧ q.1.cls ≠ "java/lang/invoke/VarHandle") ∧ Cond.instantiable q.1.cls q.2 ∈ tables_1 ∧ Cond.privateMethod q.1 ∈ tables_1 ∧ Cond.instanceMethod q.1 ∈ tables_1
theorem lw_p0 : lw_okq (⟨"OpcodeAtlas", "readForm", "(LOpcodeAtlas$Form;)Z"⟩, 9) := ⟨⟨by decide +kernel, by decide +kernel⟩, List.mem_of_getElem? (i := 16) (by decide +kernel), List.mem_of_getElem? (i := 216) (by decide +kernel), List.mem_of_getElem? (i := 217) (by decide +kernel)⟩
theorem lw_p1 : lw_okq (⟨"java/lang/Throwable", "fillInStackTrace", "(I)Ljava/lang/Throwable;"⟩, 6) := ⟨⟨by decide +kernel, by decide +kernel⟩, List.mem_of_getElem? (i := 302) (by decide +kernel), List.mem_of_getElem? (i := 300) (by decide +kernel), List.mem_of_getElem? (i := 301) (by decide +kernel)⟩
theorem lw_p2 : lw_okq (⟨"OpcodeAtlas", "findForm", "(II)I"⟩, 9) := ⟨⟨by decide +kernel, by decide +kernel⟩, List.mem_of_getElem? (i := 16) (by decide +kernel), List.mem_of_getElem? (i := 348) (by decide +kernel), List.mem_of_getElem? (i := 349) (by decide +kernel)⟩
theorem lw_p3 : lw_okq (⟨"OpcodeAtlas", "requireAddress", "(I)V"⟩, 9) := ⟨⟨by decide +kernel, by decide +kernel⟩, List.mem_of_getElem? (i := 16) (by decide +kernel), List.mem_of_getElem? (i := 374) (by decide +kernel), List.mem_of_getElem? (i := 375) (by decide +kernel)⟩
theorem lw_p4 : lw_okq (⟨"OpcodeAtlas", "requireReady", "()V"⟩, 9) := ⟨⟨by decide +kernel, by decide +kernel⟩, List.mem_of_getElem? (i := 16) (by decide +kernel), List.mem_of_getElem? (i := 408) (by decide +kernel), List.mem_of_getElem? (i := 409) (by decide +kernel)⟩
theorem lw_p5 : lw_okq (⟨"OpcodeAtlas", "narrowestAt", "(I)I"⟩, 9) := ⟨⟨by decide +kernel, by decide +kernel⟩, List.mem_of_getElem? (i := 16) (by decide +kernel), List.mem_of_getElem? (i := 413) (by decide +kernel), List.mem_of_getElem? (i := 414) (by decide +kernel)⟩
theorem lw_p6 : lw_okq (⟨"OpcodeAtlas", "wordAt", "(I)I"⟩, 9) := ⟨⟨by decide +kernel, by decide +kernel⟩, List.mem_of_getElem? (i := 16) (by decide +kernel), List.mem_of_getElem? (i := 417) (by decide +kernel), List.mem_of_getElem? (i := 418) (by decide +kernel)⟩
theorem lw_p7 : lw_okq (⟨"OpcodeAtlas", "operandAt", "(ILOpcodeAtlas$Form;I)I"⟩, 9) := ⟨⟨by decide +kernel, by decide +kernel⟩, List.mem_of_getElem? (i := 16) (by decide +kernel), List.mem_of_getElem? (i := 431) (by decide +kernel), List.mem_of_getElem? (i := 432) (by decide +kernel)⟩
theorem lw_p8 : lw_okq (⟨"OpcodeAtlas", "writeInstruction", "(ILOpcodeAtlas$Form;)V"⟩, 9) := ⟨⟨by decide +kernel, by decide +kernel⟩, List.mem_of_getElem? (i := 16) (by decide +kernel), List.mem_of_getElem? (i := 459) (by decide +kernel), List.mem_of_getElem? (i := 460) (by decide +kernel)⟩
theorem lw_p9 : lw_okq (⟨"OpcodeAtlas", "readLine", "(LOpcodeAtlas$Line;)Z"⟩, 9) := ⟨⟨by decide +kernel, by decide +kernel⟩, List.mem_of_getElem? (i := 16) (by decide +kernel), List.mem_of_getElem? (i := 480) (by decide +kernel), List.mem_of_getElem? (i := 481) (by decide +kernel)⟩
theorem lw_p10 : lw_okq (⟨"OpcodeAtlas", "readOperands", "(LOpcodeAtlas$Line;)Z"⟩, 9) := ⟨⟨by decide +kernel, by decide +kernel⟩, List.mem_of_getElem? (i := 16) (by decide +kernel), List.mem_of_getElem? (i := 488) (by decide +kernel), List.mem_of_getElem? (i := 489) (by decide +kernel)⟩
theorem lw_p11 : lw_okq (⟨"OpcodeAtlas", "findLabel", "(I)I"⟩, 9) := ⟨⟨by decide +kernel, by decide +kernel⟩, List.mem_of_getElem? (i := 16) (by decide +kernel), List.mem_of_getElem? (i := 497) (by decide +kernel), List.mem_of_getElem? (i := 498) (by decide +kernel)⟩
theorem lw_p12 : lw_okq (⟨"OpcodeAtlas", "chooseForms", "()I"⟩, 9) := ⟨⟨by decide +kernel, by decide +kernel⟩, List.mem_of_getElem? (i := 16) (by decide +kernel), List.mem_of_getElem? (i := 511) (by decide +kernel), List.mem_of_getElem? (i := 512) (by decide +kernel)⟩
theorem lw_p13 : lw_okq (⟨"OpcodeAtlas", "firstWithUnknownLabel", "()I"⟩, 9) := ⟨⟨by decide +kernel, by decide +kernel⟩, List.mem_of_getElem? (i := 16) (by decide +kernel), List.mem_of_getElem? (i := 515) (by decide +kernel), List.mem_of_getElem? (i := 516) (by decide +kernel)⟩
theorem lw_p14 : lw_okq (⟨"OpcodeAtlas", "placeLines", "(I)I"⟩, 9) := ⟨⟨by decide +kernel, by decide +kernel⟩, List.mem_of_getElem? (i := 16) (by decide +kernel), List.mem_of_getElem? (i := 535) (by decide +kernel), List.mem_of_getElem? (i := 536) (by decide +kernel)⟩
theorem lw_p15 : lw_okq (⟨"OpcodeAtlas", "firstUnfit", "()I"⟩, 9) := ⟨⟨by decide +kernel, by decide +kernel⟩, List.mem_of_getElem? (i := 16) (by decide +kernel), List.mem_of_getElem? (i := 540) (by decide +kernel), List.mem_of_getElem? (i := 541) (by decide +kernel)⟩
def lw_privs_1 : List (MethodName × Nat) := [(⟨"OpcodeAtlas", "readForm", "(LOpcodeAtlas$Form;)Z"⟩, 9), (⟨"java/lang/Throwable", "fillInStackTrace", "(I)Ljava/lang/Throwable;"⟩, 6), (⟨"OpcodeAtlas", "findForm", "(II)I"⟩, 9), (⟨"OpcodeAtlas", "requireAddress", "(I)V"⟩, 9), (⟨"OpcodeAtlas", "requireReady", "()V"⟩, 9), (⟨"OpcodeAtlas", "narrowestAt", "(I)I"⟩, 9), (⟨"OpcodeAtlas", "wordAt", "(I)I"⟩, 9), (⟨"OpcodeAtlas", "operandAt", "(ILOpcodeAtlas$Form;I)I"⟩, 9), (⟨"OpcodeAtlas", "writeInstruction", "(ILOpcodeAtlas$Form;)V"⟩, 9), (⟨"OpcodeAtlas", "readLine", "(LOpcodeAtlas$Line;)Z"⟩, 9), (⟨"OpcodeAtlas", "readOperands", "(LOpcodeAtlas$Line;)Z"⟩, 9), (⟨"OpcodeAtlas", "findLabel", "(I)I"⟩, 9), (⟨"OpcodeAtlas", "chooseForms", "()I"⟩, 9), (⟨"OpcodeAtlas", "firstWithUnknownLabel", "()I"⟩, 9), (⟨"OpcodeAtlas", "placeLines", "(I)I"⟩, 9), (⟨"OpcodeAtlas", "firstUnfit", "()I"⟩, 9)]
theorem lw_r1 : ∀ q ∈ lw_privs_1, lw_okq q := List.forall_mem_cons.mpr ⟨lw_p0, List.forall_mem_cons.mpr ⟨lw_p1, List.forall_mem_cons.mpr ⟨lw_p2, List.forall_mem_cons.mpr ⟨lw_p3, List.forall_mem_cons.mpr ⟨lw_p4, List.forall_mem_cons.mpr ⟨lw_p5, List.forall_mem_cons.mpr ⟨lw_p6, List.forall_mem_cons.mpr ⟨lw_p7, List.forall_mem_cons.mpr ⟨lw_p8, List.forall_mem_cons.mpr ⟨lw_p9, List.forall_mem_cons.mpr ⟨lw_p10, List.forall_mem_cons.mpr ⟨lw_p11, List.forall_mem_cons.mpr ⟨lw_p12, List.forall_mem_cons.mpr ⟨lw_p13, List.forall_mem_cons.mpr ⟨lw_p14, List.forall_mem_cons.mpr ⟨lw_p15, fun _ h => absurd h List.not_mem_nil⟩⟩⟩⟩⟩⟩⟩⟩⟩⟩⟩⟩⟩⟩⟩⟩
theorem lw_p16 : lw_okq (⟨"OpcodeAtlas", "fits", "(LOpcodeAtlas$Line;LOpcodeAtlas$Form;)Z"⟩, 9) := ⟨⟨by decide +kernel, by decide +kernel⟩, List.mem_of_getElem? (i := 16) (by decide +kernel), List.mem_of_getElem? (i := 544) (by decide +kernel), List.mem_of_getElem? (i := 545) (by decide +kernel)⟩
theorem lw_p17 : lw_okq (⟨"OpcodeAtlas", "wanted", "(LOpcodeAtlas$Line;I)I"⟩, 9) := ⟨⟨by decide +kernel, by decide +kernel⟩, List.mem_of_getElem? (i := 16) (by decide +kernel), List.mem_of_getElem? (i := 548) (by decide +kernel), List.mem_of_getElem? (i := 549) (by decide +kernel)⟩
theorem lw_p18 : lw_okq (⟨"OpcodeAtlas", "putLines", "()V"⟩, 9) := ⟨⟨by decide +kernel, by decide +kernel⟩, List.mem_of_getElem? (i := 16) (by decide +kernel), List.mem_of_getElem? (i := 557) (by decide +kernel), List.mem_of_getElem? (i := 558) (by decide +kernel)⟩
theorem lw_p19 : lw_okq (⟨"OpcodeAtlas", "putInstruction", "(LOpcodeAtlas$Line;LOpcodeAtlas$Form;)V"⟩, 9) := ⟨⟨by decide +kernel, by decide +kernel⟩, List.mem_of_getElem? (i := 16) (by decide +kernel), List.mem_of_getElem? (i := 561) (by decide +kernel), List.mem_of_getElem? (i := 562) (by decide +kernel)⟩
theorem lw_p20 : lw_okq (⟨"OpcodeAtlasModel", "readName", "()I"⟩, 31) := ⟨⟨by decide +kernel, by decide +kernel⟩, List.mem_of_getElem? (i := 569) (by decide +kernel), List.mem_of_getElem? (i := 682) (by decide +kernel), List.mem_of_getElem? (i := 683) (by decide +kernel)⟩
theorem lw_p21 : lw_okq (⟨"OpcodeAtlasModel", "here", "()I"⟩, 31) := ⟨⟨by decide +kernel, by decide +kernel⟩, List.mem_of_getElem? (i := 569) (by decide +kernel), List.mem_of_getElem? (i := 686) (by decide +kernel), List.mem_of_getElem? (i := 687) (by decide +kernel)⟩
theorem lw_p22 : lw_okq (⟨"OpcodeAtlasModel", "must", "(I)V"⟩, 31) := ⟨⟨by decide +kernel, by decide +kernel⟩, List.mem_of_getElem? (i := 569) (by decide +kernel), List.mem_of_getElem? (i := 693) (by decide +kernel), List.mem_of_getElem? (i := 694) (by decide +kernel)⟩
theorem lw_p23 : lw_okq (⟨"OpcodeAtlasModel", "readSigns", "()I"⟩, 31) := ⟨⟨by decide +kernel, by decide +kernel⟩, List.mem_of_getElem? (i := 569) (by decide +kernel), List.mem_of_getElem? (i := 697) (by decide +kernel), List.mem_of_getElem? (i := 698) (by decide +kernel)⟩
theorem lw_p24 : lw_okq (⟨"OpcodeAtlasModel", "signOf", "(I)I"⟩, 31) := ⟨⟨by decide +kernel, by decide +kernel⟩, List.mem_of_getElem? (i := 569) (by decide +kernel), List.mem_of_getElem? (i := 701) (by decide +kernel), List.mem_of_getElem? (i := 702) (by decide +kernel)⟩
theorem lw_p25 : lw_okq (⟨"OpcodeAtlasModel", "formOf", "(II)I"⟩, 31) := ⟨⟨by decide +kernel, by decide +kernel⟩, List.mem_of_getElem? (i := 569) (by decide +kernel), List.mem_of_getElem? (i := 705) (by decide +kernel), List.mem_of_getElem? (i := 706) (by decide +kernel)⟩
theorem lw_p26 : lw_okq (⟨"OpcodeAtlasModel", "clash", "(II)Z"⟩, 31) := ⟨⟨by decide +kernel, by decide +kernel⟩, List.mem_of_getElem? (i := 569) (by decide +kernel), List.mem_of_getElem? (i := 720) (by decide +kernel), List.mem_of_getElem? (i := 721) (by decide +kernel)⟩
theorem lw_p27 : lw_okq (⟨"OpcodeAtlasModel", "fixed", "(II)I"⟩, 31) := ⟨⟨by decide +kernel, by decide +kernel⟩, List.mem_of_getElem? (i := 569) (by decide +kernel), List.mem_of_getElem? (i := 724) (by decide +kernel), List.mem_of_getElem? (i := 725) (by decide +kernel)⟩
theorem lw_p28 : lw_okq (⟨"OpcodeAtlasModel", "isNarrower", "(II)Z"⟩, 31) := ⟨⟨by decide +kernel, by decide +kernel⟩, List.mem_of_getElem? (i := 569) (by decide +kernel), List.mem_of_getElem? (i := 728) (by decide +kernel), List.mem_of_getElem? (i := 729) (by decide +kernel)⟩
theorem lw_p29 : lw_okq (⟨"OpcodeAtlasModel", "wrongAddress", "(I)I"⟩, 31) := ⟨⟨by decide +kernel, by decide +kernel⟩, List.mem_of_getElem? (i := 569) (by decide +kernel), List.mem_of_getElem? (i := 744) (by decide +kernel), List.mem_of_getElem? (i := 745) (by decide +kernel)⟩
theorem lw_p30 : lw_okq (⟨"OpcodeAtlasModel", "decoded", "(I)I"⟩, 31) := ⟨⟨by decide +kernel, by decide +kernel⟩, List.mem_of_getElem? (i := 569) (by decide +kernel), List.mem_of_getElem? (i := 748) (by decide +kernel), List.mem_of_getElem? (i := 749) (by decide +kernel)⟩
theorem lw_p31 : lw_okq (⟨"OpcodeAtlasModel", "matches", "(II)Z"⟩, 31) := ⟨⟨by decide +kernel, by decide +kernel⟩, List.mem_of_getElem? (i := 569) (by decide +kernel), List.mem_of_getElem? (i := 752) (by decide +kernel), List.mem_of_getElem? (i := 753) (by decide +kernel)⟩
def lw_privs_2 : List (MethodName × Nat) := [(⟨"OpcodeAtlas", "fits", "(LOpcodeAtlas$Line;LOpcodeAtlas$Form;)Z"⟩, 9), (⟨"OpcodeAtlas", "wanted", "(LOpcodeAtlas$Line;I)I"⟩, 9), (⟨"OpcodeAtlas", "putLines", "()V"⟩, 9), (⟨"OpcodeAtlas", "putInstruction", "(LOpcodeAtlas$Line;LOpcodeAtlas$Form;)V"⟩, 9), (⟨"OpcodeAtlasModel", "readName", "()I"⟩, 31), (⟨"OpcodeAtlasModel", "here", "()I"⟩, 31), (⟨"OpcodeAtlasModel", "must", "(I)V"⟩, 31), (⟨"OpcodeAtlasModel", "readSigns", "()I"⟩, 31), (⟨"OpcodeAtlasModel", "signOf", "(I)I"⟩, 31), (⟨"OpcodeAtlasModel", "formOf", "(II)I"⟩, 31), (⟨"OpcodeAtlasModel", "clash", "(II)Z"⟩, 31), (⟨"OpcodeAtlasModel", "fixed", "(II)I"⟩, 31), (⟨"OpcodeAtlasModel", "isNarrower", "(II)Z"⟩, 31), (⟨"OpcodeAtlasModel", "wrongAddress", "(I)I"⟩, 31), (⟨"OpcodeAtlasModel", "decoded", "(I)I"⟩, 31), (⟨"OpcodeAtlasModel", "matches", "(II)Z"⟩, 31)]
theorem lw_r2 : ∀ q ∈ lw_privs_2, lw_okq q := List.forall_mem_cons.mpr ⟨lw_p16, List.forall_mem_cons.mpr ⟨lw_p17, List.forall_mem_cons.mpr ⟨lw_p18, List.forall_mem_cons.mpr ⟨lw_p19, List.forall_mem_cons.mpr ⟨lw_p20, List.forall_mem_cons.mpr ⟨lw_p21, List.forall_mem_cons.mpr ⟨lw_p22, List.forall_mem_cons.mpr ⟨lw_p23, List.forall_mem_cons.mpr ⟨lw_p24, List.forall_mem_cons.mpr ⟨lw_p25, List.forall_mem_cons.mpr ⟨lw_p26, List.forall_mem_cons.mpr ⟨lw_p27, List.forall_mem_cons.mpr ⟨lw_p28, List.forall_mem_cons.mpr ⟨lw_p29, List.forall_mem_cons.mpr ⟨lw_p30, List.forall_mem_cons.mpr ⟨lw_p31, fun _ h => absurd h List.not_mem_nil⟩⟩⟩⟩⟩⟩⟩⟩⟩⟩⟩⟩⟩⟩⟩⟩
theorem lw_p32 : lw_okq (⟨"OpcodeAtlasModel", "bitAt", "(II)I"⟩, 31) := ⟨⟨by decide +kernel, by decide +kernel⟩, List.mem_of_getElem? (i := 569) (by decide +kernel), List.mem_of_getElem? (i := 756) (by decide +kernel), List.mem_of_getElem? (i := 757) (by decide +kernel)⟩
theorem lw_p33 : lw_okq (⟨"OpcodeAtlasModel", "valueOf", "(III)I"⟩, 31) := ⟨⟨by decide +kernel, by decide +kernel⟩, List.mem_of_getElem? (i := 569) (by decide +kernel), List.mem_of_getElem? (i := 764) (by decide +kernel), List.mem_of_getElem? (i := 765) (by decide +kernel)⟩
theorem lw_p34 : lw_okq (⟨"OpcodeAtlasModel", "add", "(I)V"⟩, 31) := ⟨⟨by decide +kernel, by decide +kernel⟩, List.mem_of_getElem? (i := 569) (by decide +kernel), List.mem_of_getElem? (i := 772) (by decide +kernel), List.mem_of_getElem? (i := 773) (by decide +kernel)⟩
theorem lw_p35 : lw_okq (⟨"OpcodeAtlasModel", "addName", "(I)V"⟩, 31) := ⟨⟨by decide +kernel, by decide +kernel⟩, List.mem_of_getElem? (i := 569) (by decide +kernel), List.mem_of_getElem? (i := 776) (by decide +kernel), List.mem_of_getElem? (i := 777) (by decide +kernel)⟩
theorem lw_p36 : lw_okq (⟨"OpcodeAtlasModel", "addNumber", "(I)V"⟩, 31) := ⟨⟨by decide +kernel, by decide +kernel⟩, List.mem_of_getElem? (i := 569) (by decide +kernel), List.mem_of_getElem? (i := 780) (by decide +kernel), List.mem_of_getElem? (i := 781) (by decide +kernel)⟩
theorem lw_p37 : lw_okq (⟨"OpcodeAtlasModel", "readOperands", "()I"⟩, 31) := ⟨⟨by decide +kernel, by decide +kernel⟩, List.mem_of_getElem? (i := 569) (by decide +kernel), List.mem_of_getElem? (i := 795) (by decide +kernel), List.mem_of_getElem? (i := 796) (by decide +kernel)⟩
theorem lw_p38 : lw_okq (⟨"OpcodeAtlasModel", "readOperand", "(I)V"⟩, 31) := ⟨⟨by decide +kernel, by decide +kernel⟩, List.mem_of_getElem? (i := 569) (by decide +kernel), List.mem_of_getElem? (i := 799) (by decide +kernel), List.mem_of_getElem? (i := 800) (by decide +kernel)⟩
theorem lw_p39 : lw_okq (⟨"OpcodeAtlasModel", "missing", "()I"⟩, 31) := ⟨⟨by decide +kernel, by decide +kernel⟩, List.mem_of_getElem? (i := 569) (by decide +kernel), List.mem_of_getElem? (i := 814) (by decide +kernel), List.mem_of_getElem? (i := 815) (by decide +kernel)⟩
theorem lw_p40 : lw_okq (⟨"OpcodeAtlasModel", "lineOf", "(I)I"⟩, 31) := ⟨⟨by decide +kernel, by decide +kernel⟩, List.mem_of_getElem? (i := 569) (by decide +kernel), List.mem_of_getElem? (i := 818) (by decide +kernel), List.mem_of_getElem? (i := 819) (by decide +kernel)⟩
theorem lw_p41 : lw_okq (⟨"OpcodeAtlasModel", "laid", "(II)Z"⟩, 31) := ⟨⟨by decide +kernel, by decide +kernel⟩, List.mem_of_getElem? (i := 569) (by decide +kernel), List.mem_of_getElem? (i := 822) (by decide +kernel), List.mem_of_getElem? (i := 823) (by decide +kernel)⟩
theorem lw_p42 : lw_okq (⟨"OpcodeAtlasModel", "fieldOf", "(IIII)I"⟩, 31) := ⟨⟨by decide +kernel, by decide +kernel⟩, List.mem_of_getElem? (i := 569) (by decide +kernel), List.mem_of_getElem? (i := 826) (by decide +kernel), List.mem_of_getElem? (i := 827) (by decide +kernel)⟩
def lw_privs_3 : List (MethodName × Nat) := [(⟨"OpcodeAtlasModel", "bitAt", "(II)I"⟩, 31), (⟨"OpcodeAtlasModel", "valueOf", "(III)I"⟩, 31), (⟨"OpcodeAtlasModel", "add", "(I)V"⟩, 31), (⟨"OpcodeAtlasModel", "addName", "(I)V"⟩, 31), (⟨"OpcodeAtlasModel", "addNumber", "(I)V"⟩, 31), (⟨"OpcodeAtlasModel", "readOperands", "()I"⟩, 31), (⟨"OpcodeAtlasModel", "readOperand", "(I)V"⟩, 31), (⟨"OpcodeAtlasModel", "missing", "()I"⟩, 31), (⟨"OpcodeAtlasModel", "lineOf", "(I)I"⟩, 31), (⟨"OpcodeAtlasModel", "laid", "(II)Z"⟩, 31), (⟨"OpcodeAtlasModel", "fieldOf", "(IIII)I"⟩, 31)]
theorem lw_r3 : ∀ q ∈ lw_privs_3, lw_okq q := List.forall_mem_cons.mpr ⟨lw_p32, List.forall_mem_cons.mpr ⟨lw_p33, List.forall_mem_cons.mpr ⟨lw_p34, List.forall_mem_cons.mpr ⟨lw_p35, List.forall_mem_cons.mpr ⟨lw_p36, List.forall_mem_cons.mpr ⟨lw_p37, List.forall_mem_cons.mpr ⟨lw_p38, List.forall_mem_cons.mpr ⟨lw_p39, List.forall_mem_cons.mpr ⟨lw_p40, List.forall_mem_cons.mpr ⟨lw_p41, List.forall_mem_cons.mpr ⟨lw_p42, fun _ h => absurd h List.not_mem_nil⟩⟩⟩⟩⟩⟩⟩⟩⟩⟩⟩
def lw_privs : List (MethodName × Nat) := lw_privs_1 ++ (lw_privs_2 ++ (lw_privs_3))
def lw_tbl : List Cond := k2_sels lw_privs ++ tables_1
theorem lw_privs_ok : ∀ q ∈ lw_privs, lw_okq q := by
  show ∀ q ∈ lw_privs_1 ++ (lw_privs_2 ++ (lw_privs_3)), lw_okq q
  exact List.forall_mem_append.mpr ⟨lw_r1, List.forall_mem_append.mpr ⟨lw_r2, lw_r3⟩⟩
end
section
/-! ===== BEGIN words of one list among another's, by their places ===== -/
theorem goodIn_r {big : List Cond} (ws : List Cond) (ps : List Nat) (hp : ws = ps.filterMap (fun i => big[i]?)) (h : ws.all goodWord = true) : GoodIn big ws := by
  intro w hw
  have h1 := List.all_eq_true.mp h w hw
  rw [hp] at hw
  obtain ⟨i, -, hi⟩ := List.mem_filterMap.mp hw
  have hm : w ∈ big := by first | exact List.mem_of_getElem? hi | exact List.getElem?_mem hi
  exact ⟨hm, good_of_word h1⟩
theorem goodIn_app {big a b : List Cond} (ha : GoodIn big a) (hb : GoodIn big b) : GoodIn big (a ++ b) := fun w h => (List.mem_append.mp h).elim (ha w) (hb w)
theorem goodIn_ca {big a b : List Cond} {c : Cond} (ha : GoodIn big (c :: a)) (hb : GoodIn big b) : GoodIn big (c :: (a ++ b)) := fun w h => (List.mem_cons.mp h).elim (fun e => ha w (List.mem_cons.mpr (Or.inl e))) (fun h => (List.mem_append.mp h).elim (fun h => ha w (List.mem_cons.mpr (Or.inr h))) (hb w))
theorem goodIn_sub {big ws : List Cond} (hm : ∀ w ∈ ws, w ∈ big) (h : ws.all goodWord = true) : GoodIn big ws := fun w hw => ⟨hm w hw, good_of_word (List.all_eq_true.mp h w hw)⟩
/-! ===== END ===== -/

/-! ===== BEGIN exceptions that leave a method, and their catching by the caller (launches without stack traces) ===== -/
section VXA
/-! The laws vx_back, vx_callV, vx_callS, vx_callSW, vx_throw0, vx_throwS follow proofs of the library, with one case more: JvmDerived/Free/Laws.lean (Back.of_free), Shelf42/LK1.lean (callV, callS), Shelf/KitTraced.lean (throwNew0V, throwNewS). -/
/-- where a method has thrown q: the class by its name, the cell, what was written, the world -/
def vx_T (XC : String → State → State → Prop) (st : State) (q : Addr) (t : State) (mc ms : Nat) (free : Addr → Prop) : Prop :=
  ∃ (E : String) (ce : Cell) (L : List Loc), XC E st t ∧ t.heap[q]? = some ce ∧ ce.vm = .none ∧ st.vm.findClass E = some ce.cls ∧ st.WarmedH t.vm ∧ st.sameButNew ({ t with vm := st.vm } : State) L mc ms ∧ ∀ z ∈ L, free z.base
def vx_Q (Qc : Array Value → State → Outcome → State → Prop) (XC : String → State → State → Prop) (mc ms : Nat) (free : Addr → Prop) : Array Value → State → Outcome → State → Prop := fun a st o t =>
  (Qc a st o t ∧ ∃ L, FrameEnd st o t L mc ms ∧ ∀ q ∈ L, free q.base) ∨ ∃ q, o = .threw q ∧ vx_T XC st q t mc ms free
/-- a callee that returns or throws -/
def vx_Met (l : Launch) (y : MethodName) (ws : List Cond) (rm : Room) (Pc : Array Value → State → Prop) (Qc : Array Value → State → Outcome → State → Prop) (XC : String → State → State → Prop) (mc ms : Nat) (free : Addr → Prop) : Prop :=
  MetFree l y (headSpec ws rm) Pc (fun _ _ _ _ _ => True) (vx_Q Qc XC mc ms free)
def vx_Post (XC : String → State → State → Prop) (mc ms : Nat) (free : Addr → Prop) : Pt → Array Value → Addr → Pt → Prop := fun A a q B =>
  ∃ (g : JFrame) (mk : MethodId) (t : State) (L : List Loc) (E : String) (ce : Cell), B.U.heap = t.heap ∧ B.U.vm = t.vm ∧ XC E (A.U.calling g mk a) t ∧ t.heap[q]? = some ce ∧ ce.vm = .none ∧ A.U.vm.findClass E = some ce.cls ∧ B.locs = A.locs ++ L ∧ (∀ z ∈ L, free z.base) ∧ B.cells = A.cells + mc ∧ B.slots = A.slots + ms
def vx_Back (l : Launch) (R : Room) (p : Program) (e : Env) (below : List Frame) (s : State) (sargs : Array Value) (y : MethodName) (len W9 : Nat)
    (Pre : Pt → Array Value → Prop) (Post : Pt → Array Value → Option Value → Pt → Prop) (PostX : Pt → Array Value → Addr → Pt → Prop) : Prop :=
  ∀ (m : MethodId) (meth : Method) (c : Code) (A : Pt) (g : JFrame) (ig : Instr) (mk : MethodId) (a : Array Value),
    Stand p l e R s m sargs below meth c A.U A.locs A.cells A.slots → g.method = m → g.locals.size = c.maxLocals → decode c.code g.pc = .ok (ig, len) →
    2 * g.monitorRoom + (g.stack.map fun v => v.category).sum ≤ W9 → A.U.methodNamed? y = some mk → Pre A a →
    (∃ (v : Option Value) (B : Pt), Stand p l e R s m sargs below meth c B.U B.locs B.cells B.slots ∧ Post A a v B ∧
      Steps p.tables e below (doInvoke e (A.U.setTop g) [] mk a).1 (B.U.setTop { g with pc := g.pc + len, stack := v.toList ++ g.stack })) ∨
    (∃ (q : Addr) (B : Pt), Stand p l e R s m sargs below meth c B.U B.locs B.cells B.slots ∧ PostX A a q B ∧
      Steps p.tables e below (doInvoke e (A.U.setTop g) [] mk a).1 ((B.U.setTop g).pushFrame (.throwing q)))
section Payer
variable {l : Launch} {R : Room} {p : Program} {e : Env} {below : List Frame} {s : State} {sargs : Array Value} {y : MethodName} {len W9 : Nat}
theorem vx_back {ws : List Cond} {rm : Room} {Pc : Array Value → State → Prop} {Qc : Array Value → State → Outcome → State → Prop} {XC : String → State → State → Prop} {mc ms : Nat} {free : Addr → Prop} {bytes : ByteArray} {maxL : Nat} {ret : Option FieldType}
    (hM : vx_Met l y ws rm Pc Qc XC mc ms free) (hblind : FrameBlind Pc) (hrc : rm.cells = mc) (hrs : rm.slots = ms)
    (hframes : rm.frames + 1 ≤ R.frames) (hlocals : W9 + (maxL + 11) + rm.locals ≤ R.locals)
    (hws : ∀ w ∈ ws, ∀ a' U, s.WarmedH U.vm → w.before a' U = true) (hcode : Cond.code y bytes maxL ret ∈ ws) (hinit : ∀ a' U, s.WarmedH U.vm → (Cond.initialized y.cls).before a' U = true) :
    vx_Back l R p e below s sargs y len W9 (PreOf R mc ms Pc) (PostOf Qc mc ms free) (vx_Post XC mc ms free) := by
  intro m meth c A g ig mk a X hg hsize hdg hW hn hp
  have h1 : (headSpec ws rm).pre.before a A.U = true := atoms_intro fun w hw => hws w hw _ _ X.warmed
  have h2 : (Cond.code y bytes maxL ret).before a A.U = true := hws _ hcode _ _ X.warmed
  have h3 : (Cond.initialized y.cls).before a A.U = true := hinit _ _ X.warmed
  have h4 : A.cells + (headSpec ws rm).room.cells ≤ R.cells := by rw [show (headSpec ws rm).room.cells = mc from hrc]; exact hp.1
  have h5 : A.slots + (headSpec ws rm).room.slots ≤ R.slots := by rw [show (headSpec ws rm).room.slots = ms from hrs]; exact hp.2.1
  have hPc : Pc a (A.U.calling g mk a) := hblind _ _ _ _ hp.2.2
  obtain ⟨U, Ls, c0, s0⟩ := A
  dsimp only [Pt.U, Pt.locs, Pt.cells, Pt.slots] at h1 h2 h3 h4 h5 X hn hPc ⊢
  obtain ⟨methY, cY, hmY, hcY, -, hlY, -, -, -, -⟩ := Cond.code_spec hn h2
  obtain ⟨kY, hkY, -⟩ := className_of_methodNamed hn
  have hinitY : kY.init = .initialized := Cond.initialized_spec (findClass_of_methodNamed hn) hkY h3
  have h : At U g.method c below := by rw [hg]; exact X.here
  have hlocals9 : W9 + (maxL + 11) + (headSpec ws rm).room.locals ≤ R.locals := hlocals
  have happ : (headSpec ws rm).appliesLoose y e.platform (U.calling g mk a) = true :=
    Spec.appliesLoose_calling (g := g) h hdg hn hkY hinitY
      (X.room_calling (g := g) (R' := (headSpec ws rm).room) hsize hmY hcY hframes (by rw [hlY]; omega) h4 h5) h1
  obtain ⟨mid, hmid⟩ := h.above
  have hfr : (U.setTop g).frames = (.java g :: mid) ++ below := by rw [State.frames_setTop' g h.top, hmid]; rfl
  obtain ⟨o, s₂, hsteps, -, hend, hq⟩ := Steps.callFree hM p X.admits X.cas X.clock (acts := []) hfr happ hPc trivial
  have hq' : vx_Q Qc XC mc ms free a (U.calling g mk a) o s₂ := hq
  rw [State.frames_setTop' g h.top] at hend
  obtain ⟨g₀, hg0⟩ := Option.isSome_iff_exists.mp h.top
  obtain ⟨r, hr⟩ := State.topJava?_eq_some.mp hg0
  have hr' : (({ U with heap := s₂.heap, slotsUsed := s₂.slotsUsed } : State).setVm s₂.vm).frames = .java g₀ :: r := hr
  rcases hq' with ⟨hqc, L, hfe, hL⟩ | ⟨q, rfl, E, ce, L, hx, hce, hcv, hcl, hW₂, hsm, hL⟩
  · obtain ⟨⟨v, rfl⟩, hW₂, e2, q2, q3, q4, q5, q6⟩ := id hfe
    have e3 : s₂ = ({ (U.calling g mk a).setFrames s₂.frames with heap := s₂.heap, slotsUsed := s₂.slotsUsed } : State).setVm s₂.vm := by
      have : s₂ = ({ s₂ with vm := (U.calling g mk a).vm } : State).setVm s₂.vm := rfl
      rw [e2] at this
      exact this
    obtain ⟨c₂, i₂, len₂, hc₂, hd₂, hf₂⟩ := hend
    have hW' : U.WarmedH s₂.vm := hW₂
    have hcc : c₂ = c := by
      have h1 : s₂.code? g.method = U.code? g.method := by
        rw [State.code?_eq, State.code?_eq, hW'.alike.method?]
      exact Option.some.inj (hc₂.symm.trans (h1.trans h.code))
    subst hcc
    have hlen : len₂ = len := by rw [hdg] at hd₂; cases hd₂; rfl
    subst hlen
    have hs₂ : s₂ = (({ U with heap := s₂.heap, slotsUsed := s₂.slotsUsed } : State).setVm s₂.vm).setTop { g with pc := g.pc + len₂, stack := v.toList ++ g.stack } := by
      refine e3.trans ?_
      rw [hf₂, State.calling_eq h.top, State.setFrames_setFrames, State.setTop_of_frames _ hr', hr]
      rfl
    have hsame : U.sameButNew ({ U with heap := s₂.heap, slotsUsed := s₂.slotsUsed } : State) L mc ms := by
      refine ⟨?_, q2, q3, q4, q5, q6⟩
      obtain ⟨t, ht, -⟩ := State.frames_cons hr
      show ({ U with heap := s₂.heap, slotsUsed := s₂.slotsUsed } : State) = { U.setFrames U.frames with heap := s₂.heap, slotsUsed := s₂.slotsUsed }
      rw [State.setFrames_self ht]
    subst hg
    refine Or.inl ⟨v, ⟨(({ U with heap := s₂.heap, slotsUsed := s₂.slotsUsed } : State).setVm s₂.vm), Ls ++ L, c0 + mc, s0 + ms⟩,
      ⟨X.admits, X.cas, X.clock, X.frames, X.room, X.hears, X.method, X.code, (X.here.setHeapUsed s₂.heap s₂.slotsUsed).setVm hW'.alike, X.tail, State.WarmedH.trans X.warmed hW', X.limits, X.bytes, X.same.trans (hsame.setVm s.vm)⟩,
      ⟨g, mk, s₂, L, rfl, rfl, hqc, rfl, hL, rfl, rfl⟩, ?_⟩
    show Steps p.tables e below _ ((({ U with heap := s₂.heap, slotsUsed := s₂.slotsUsed } : State).setVm s₂.vm).setTop { g with pc := g.pc + len₂, stack := v.toList ++ g.stack })
    rw [← hs₂]
    exact hsteps
  · obtain ⟨e2, q2, q3, q4, q5, q6⟩ := id hsm
    have e3 : s₂ = ({ (U.calling g mk a).setFrames s₂.frames with heap := s₂.heap, slotsUsed := s₂.slotsUsed } : State).setVm s₂.vm := by
      have : s₂ = ({ s₂ with vm := (U.calling g mk a).vm } : State).setVm s₂.vm := rfl
      rw [e2] at this
      exact this
    have hf₂ : s₂.frames = .throwing q :: .java g :: U.frames.tail := hend
    have hW' : U.WarmedH s₂.vm := hW₂
    have hs₂ : s₂ = ((({ U with heap := s₂.heap, slotsUsed := s₂.slotsUsed } : State).setVm s₂.vm).setTop g).pushFrame (.throwing q) := by
      refine e3.trans ?_
      rw [hf₂, State.calling_eq h.top, State.setFrames_setFrames, State.pushFrame, State.frames_setTop _ hr', State.setTop_of_frames _ hr', State.setFrames_setFrames, hr]
      rfl
    have hsame : U.sameButNew ({ U with heap := s₂.heap, slotsUsed := s₂.slotsUsed } : State) L mc ms := by
      refine ⟨?_, q2, q3, q4, q5, q6⟩
      obtain ⟨t, ht, -⟩ := State.frames_cons hr
      show ({ U with heap := s₂.heap, slotsUsed := s₂.slotsUsed } : State) = { U.setFrames U.frames with heap := s₂.heap, slotsUsed := s₂.slotsUsed }
      rw [State.setFrames_self ht]
    subst hg
    refine Or.inr ⟨q, ⟨(({ U with heap := s₂.heap, slotsUsed := s₂.slotsUsed } : State).setVm s₂.vm), Ls ++ L, c0 + mc, s0 + ms⟩,
      ⟨X.admits, X.cas, X.clock, X.frames, X.room, X.hears, X.method, X.code, (X.here.setHeapUsed s₂.heap s₂.slotsUsed).setVm hW'.alike, X.tail, State.WarmedH.trans X.warmed hW', X.limits, X.bytes, X.same.trans (hsame.setVm s.vm)⟩,
      ⟨g, mk, s₂, L, E, ce, rfl, rfl, hx, hce, hcv, hcl, rfl, hL, rfl, rfl⟩, ?_⟩
    show Steps p.tables e below _ (((({ U with heap := s₂.heap, slotsUsed := s₂.slotsUsed } : State).setVm s₂.vm).setTop g).pushFrame (.throwing q))
    rw [← hs₂]
    exact hsteps
end Payer
section Calls
variable {p : Program} {l : Launch} {e : Env} {R : Room} {s : State} {m : MethodId} {args : Array Value} {below : List Frame} {meth : Method} {c : Code} {T : State} {locs : List Loc} {cells slots : Nat}
theorem vx_callV (X : Stand p l e R s m args below meth c T locs cells slots) (hexec : p.tables.exec = Jvm.exec) {own C : String} {index : Nat} {y : MethodName} {bytes : ByteArray} {maxL : Nat} {ret : Option FieldType}
    (hown : s.vm.findClass own = some m.cls) (hlink : (Cond.methodLink own index y).before args s = true) (hinst : (Cond.instanceMethod y).before args s = true) (hsel : (Cond.selects C y y).before args s = true)
    (hcode : (Cond.code y bytes maxL ret).before args s = true) (hy : y.cls ≠ "java/lang/invoke/MethodHandle" ∧ y.cls ≠ "java/lang/invoke/VarHandle")
    {W9 : Nat} {Pre : Pt → Array Value → Prop} {Post : Pt → Array Value → Option Value → Pt → Prop} {PostX : Pt → Array Value → Addr → Pt → Prop} (hK : vx_Back l R p e below s args y 3 W9 Pre Post PostX)
    {b : Addr} {cellB : Cell} (hcell : T.heap[b]? = some cellB) (hobj : cellB.vm.isStatics = false) (hcls : s.vm.findClass C = some cellB.cls)
    {g : JFrame} (hg : g.method = m) (hsize : g.locals.size = c.maxLocals) {argsL rest : List Value} (hlen : ∀ sig, parseMethodDescriptor y.desc = some sig → argsL.length = sig.parameters.length)
    (hstack : g.stack = argsL.reverse ++ .ref b :: rest) (hW : 2 * g.monitorRoom + (rest.map fun v => v.category).sum ≤ W9) (hdg : decode c.code g.pc = .ok (.invokevirtual index, 3))
    (hpre : ∀ vm₁, s.WarmedH vm₁ → Pre ⟨T.setVm vm₁, locs, cells, slots⟩ (Value.ref b :: argsL).toArray) :
    (∃ (v : Option Value) (vm₁ : Vm) (B : Pt), s.WarmedH vm₁ ∧ Stand p l e R s m args below meth c B.U B.locs B.cells B.slots ∧ Post ⟨T.setVm vm₁, locs, cells, slots⟩ (Value.ref b :: argsL).toArray v B ∧
      ∀ target, Steps p.tables e below (B.U.setTop { g with pc := g.pc + 3, stack := v.toList ++ rest }) target → Steps p.tables e below (T.setTop g) target) ∨
    (∃ (q : Addr) (vm₁ : Vm) (B : Pt), s.WarmedH vm₁ ∧ Stand p l e R s m args below meth c B.U B.locs B.cells B.slots ∧ PostX ⟨T.setVm vm₁, locs, cells, slots⟩ (Value.ref b :: argsL).toArray q B ∧
      Steps p.tables e below (T.setTop g) ((B.U.setTop { g with stack := rest }).pushFrame (.throwing q))) := by
  obtain ⟨mk, methM, hnamed, hmethM, hstM, habM⟩ := Cond.instanceMethod_spec hinst
  obtain ⟨methM', cM, hmethM', -, -, -, -, -, -, hsigM⟩ := Cond.code_spec hnamed hcode
  cases hmethM.symm.trans hmethM'
  obtain ⟨c2, r2, m2, q1, q2, q3, q4, kP, hkP, hkPi⟩ := Cond.selects_spec hsel
  cases hcls.symm.trans q1
  cases (State.methodFound?_of_named hnamed hy).symm.trans q2
  cases hnamed.symm.trans q3
  have hselP : selectMethod e.platform s.vm cellB.cls mk = .method mk := by rw [Launch.admits_selectMethod X.admits]; exact q4
  obtain ⟨vm₁, X₁, hstep₁⟩ := X.invokevirtual hexec hown hlink hnamed hmethM hstM hkP hkPi hy (a := b) (cell := cellB) hcell
    (fun z h => by rw [h] at hobj; cases hobj) hselP hmethM habM hkP hkPi (g := g) hg (argsL := argsL) (rest := rest) (hlen _ hsigM) hstack hdg
  rcases hK m meth c ⟨T.setVm vm₁, locs, cells, slots⟩ { g with stack := rest } (.invokevirtual index) mk (Value.ref b :: argsL).toArray X₁ hg hsize hdg hW (X₁.named hnamed) (hpre vm₁ X₁.warmed) with ⟨v, B, X', hpost, hsteps⟩ | ⟨q, B, X', hpost, hsteps⟩
  · exact Or.inl ⟨v, vm₁, B, X₁.warmed, X', hpost, fun target h => hstep₁ _ fun acts => by rw [doInvoke_state]; exact hsteps.trans h⟩
  · exact Or.inr ⟨q, vm₁, B, X₁.warmed, X', hpost, hstep₁ _ fun acts => by rw [doInvoke_state]; exact hsteps⟩
theorem vx_callS (X : Stand p l e R s m args below meth c T locs cells slots) (hexec : p.tables.exec = Jvm.exec) {own : String} {index : Nat} {y : MethodName} {bytes : ByteArray} {maxL : Nat} {ret : Option FieldType}
    (hown : s.vm.findClass own = some m.cls) (hlink : (Cond.methodLink own index y).before args s = true) (hstat : (Cond.static y).before args s = true) (hinit : (Cond.initialized y.cls).before args s = true)
    (hcode : (Cond.code y bytes maxL ret).before args s = true) (hy : y.cls ≠ "java/lang/invoke/MethodHandle" ∧ y.cls ≠ "java/lang/invoke/VarHandle")
    {W9 : Nat} {Pre : Pt → Array Value → Prop} {Post : Pt → Array Value → Option Value → Pt → Prop} {PostX : Pt → Array Value → Addr → Pt → Prop} (hK : vx_Back l R p e below s args y 3 W9 Pre Post PostX)
    {g : JFrame} (hg : g.method = m) (hsize : g.locals.size = c.maxLocals) {argsL rest : List Value} (hlen : ∀ sig, parseMethodDescriptor y.desc = some sig → argsL.length = sig.parameters.length)
    (hstack : g.stack = argsL.reverse ++ rest) (hW : 2 * g.monitorRoom + (rest.map fun v => v.category).sum ≤ W9) (hdg : decode c.code g.pc = .ok (.invokestatic index, 3))
    (hpre : ∀ vm₁, s.WarmedH vm₁ → Pre ⟨T.setVm vm₁, locs, cells, slots⟩ argsL.toArray) :
    (∃ (v : Option Value) (vm₁ : Vm) (B : Pt), s.WarmedH vm₁ ∧ Stand p l e R s m args below meth c B.U B.locs B.cells B.slots ∧ Post ⟨T.setVm vm₁, locs, cells, slots⟩ argsL.toArray v B ∧
      ∀ target, Steps p.tables e below (B.U.setTop { g with pc := g.pc + 3, stack := v.toList ++ rest }) target → Steps p.tables e below (T.setTop g) target) ∨
    (∃ (q : Addr) (vm₁ : Vm) (B : Pt), s.WarmedH vm₁ ∧ Stand p l e R s m args below meth c B.U B.locs B.cells B.slots ∧ PostX ⟨T.setVm vm₁, locs, cells, slots⟩ argsL.toArray q B ∧
      Steps p.tables e below (T.setTop g) ((B.U.setTop { g with stack := rest }).pushFrame (.throwing q))) := by
  obtain ⟨mk, hnamed⟩ := Cond.code_named hcode
  obtain ⟨methM, cM, hmethM, -, -, -, -, -, -, hsigM⟩ := Cond.code_spec hnamed hcode
  have hstatic : methM.isStatic = true := Cond.static_spec hnamed hmethM hstat
  obtain ⟨kP, hkP, -⟩ := className_of_methodNamed hnamed
  have hinitP : kP.init = .initialized := Cond.initialized_spec (findClass_of_methodNamed hnamed) hkP hinit
  obtain ⟨vm₁, X₁, hstep₁⟩ := X.invokestatic hexec hown hlink hnamed hmethM hstatic hkP hinitP hy (g := g) hg (argsL := argsL) (rest := rest) (hlen _ hsigM) hstack hdg
  rcases hK m meth c ⟨T.setVm vm₁, locs, cells, slots⟩ { g with stack := rest } (.invokestatic index) mk argsL.toArray X₁ hg hsize hdg hW (X₁.named hnamed) (hpre vm₁ X₁.warmed) with ⟨v, B, X', hpost, hsteps⟩ | ⟨q, B, X', hpost, hsteps⟩
  · exact Or.inl ⟨v, vm₁, B, X₁.warmed, X', hpost, fun target h => hstep₁ _ fun acts => by rw [doInvoke_state]; exact hsteps.trans h⟩
  · exact Or.inr ⟨q, vm₁, B, X₁.warmed, X', hpost, hstep₁ _ fun acts => by rw [doInvoke_state]; exact hsteps⟩
end Calls
theorem vx_cls {s : State} {T : State} {vm₁ : Vm} {E : String} {k : ClassId} (hW : s.WarmedH vm₁) (h : (T.setVm vm₁).vm.findClass E = some k) : s.vm.findClass E = some k := by
  have h1 : vm₁.findClass E = some k := h
  rw [hW.alike.findClass] at h1
  exact h1
/-- the method's frame g, with q thrown over it -/
def vx_W (p : Program) (l : Launch) (e : Env) (R : Room) (s : State) (m : MethodId) (args : Array Value) (below : List Frame) (meth : Method) (c : Code) (H : Heap) (locs : List Loc) (cells slots : Nat) (Q : State → Prop) (g : JFrame) (q : Addr) : Prop :=
  ∀ T : State, T.heap = H → Stand p l e R s m args below meth c T locs cells slots → ∃ t, Steps p.tables e below ((T.setTop g).pushFrame (.throwing q)) t ∧ Q t
def vx_Run (p : Program) (l : Launch) (e : Env) (R : Room) (s : State) (m : MethodId) (args : Array Value) (below : List Frame) (meth : Method) (c : Code) (H : Heap) (locs : List Loc) (cells slots mc ms : Nat) (g : JFrame) (rest : List Value) (Qa : State → Outcome → State → Prop) (XC : String → State → State → Prop) (free : Addr → Prop) : Prop :=
  ∀ T : State, T.heap = H → Stand p l e R s m args below meth c T locs cells slots →
    (∃ (v : Option Value) (st₀ t T' : State) (L : List Loc), st₀.heap = H ∧ Stand p l e R s m args below meth c T' (locs ++ L) (cells + mc) (slots + ms) ∧ (∀ q ∈ L, free q.base) ∧ T'.heap = t.heap ∧ T'.vm = t.vm ∧ Qa st₀ (.returned v) t ∧
      Goes p e below T g T' { g with pc := g.pc + 3, stack := v.toList ++ rest }) ∨
    (∃ (q : Addr) (st₀ t T' : State) (L : List Loc) (E : String) (ce : Cell), st₀.heap = H ∧ Stand p l e R s m args below meth c T' (locs ++ L) (cells + mc) (slots + ms) ∧ (∀ z ∈ L, free z.base) ∧ T'.heap = t.heap ∧ T'.vm = t.vm ∧ XC E st₀ t ∧ t.heap[q]? = some ce ∧ ce.vm = .none ∧ s.vm.findClass E = some ce.cls ∧
      Steps p.tables e below (T.setTop g) ((T'.setTop { g with stack := rest }).pushFrame (.throwing q)))
def vx_X {S : Type} (px : S → Prop) (B : String → S → State → Prop) (A : Nat → Prop) : String → State → State → Prop := fun E st t => ∃ u : S, px u ∧ B E u t ∧ va_F A st t
section Runs
variable {p : Program} {l : Launch} {e : Env} {R : Room} {s : State} {m : MethodId} {args : Array Value} {below : List Frame} {meth : Method} {c : Code} {H : Heap} {locs : List Loc} {cells slots : Nat}
variable {y : MethodName} {bytes cc : ByteArray} {maxL nL mc ms n index : Nat} {ret : Option FieldType} {ws : List Cond} {rm : Room} {Pc : Array Value → State → Prop} {Qc : Array Value → State → Outcome → State → Prop} {XC : String → State → State → Prop} {free : Addr → Prop} {Ts : List Cond} {own C : String} {b : Addr} {As rest : List Value} {g : JFrame}
theorem vx_callBack (cb : CallB R s args own index y bytes maxL ret ws rm mc ms n) (hM : vx_Met l y ws rm Pc Qc XC mc ms free) (hbl : FrameBlind Pc) : vx_Back l R p e below s args y 3 8 (PreOf R mc ms Pc) (PostOf Qc mc ms free) (vx_Post XC mc ms free) := by
  obtain ⟨hrc, hrs, hfr, hlo, hws, hcw, -, hini, -⟩ := cb
  exact vx_back (bytes := bytes) (maxL := maxL) (ret := ret) hM hbl hrc hrs hfr hlo hws hcw (fun a' U hW => word_at hW (Or.inl (by first | rfl | simp [Cond.onTables, Cond.keeps, Cond.steady])) hini)
theorem vx_runV (S : CallFix p m c cc nL s args Ts own) (hM : vx_Met l y ws rm Pc Qc XC mc ms free) (cw : CallW R s args own C index y bytes maxL ret ws rm mc ms n) (hp : PreV s H C b Pc As)
    (hg : g.method = m) (hn : As.length = n) (hsize : g.locals.size = nL) (hstack : g.stack = As.reverse ++ .ref b :: rest) (hW : 2 * g.monitorRoom + (rest.map fun v => v.category).sum ≤ 8) (hdg : decode cc g.pc = .ok (.invokevirtual index, 3)) (hf : cells + mc ≤ R.cells ∧ slots + ms ≤ R.slots) :
    vx_Run p l e R s m args below meth c H locs cells slots mc ms g rest (Qc (Value.ref b :: As).toArray) XC free := by
  have hK : vx_Back l R p e below s args y 3 8 (PreOf R mc ms Pc) (PostOf Qc mc ms free) (vx_Post XC mc ms free) := vx_callBack cw.1 hM hp.1
  obtain ⟨⟨-, -, -, -, -, -, hcode, -, hy, hlen, hl⟩, hin, hse⟩ := cw
  obtain ⟨hx, hb, hml, ho, -⟩ := S
  obtain ⟨-, ⟨cellB, hcB, hoB, hclB⟩, hPc⟩ := hp
  intro T hT X
  rcases vx_callV X hx (C := C) (bytes := bytes) (maxL := maxL) (ret := ret) ho hl hin hse hcode hy hK (by rw [hT]; exact hcB) hoB hclB hg (hsize.trans hml.symm) (argsL := As) (rest := rest) (fun sig h => hn.trans (hlen sig h)) hstack hW (by rw [hb]; exact hdg)
    (fun vm₁ hW₁ => ⟨hf.1, hf.2, hPc (T.setVm vm₁) hT hW₁⟩) with ⟨v, vm₁, ⟨U', l2, c2, s2⟩, hW₁, X', ⟨g', mk, t, L, e1, e2, hq, h1, hL, h2, h3⟩, st⟩ | ⟨q, vm₁, ⟨U', l2, c2, s2⟩, hW₁, X', ⟨g', mk, t, L, E, ce, e1, e2, hq, hce, hcv, hcl, h1, hL, h2, h3⟩, st⟩
  · dsimp only [Pt.U, Pt.locs, Pt.cells, Pt.slots] at X' e1 e2 h1 h2 h3 st
    subst h1; subst h2; subst h3
    exact Or.inl ⟨v, (T.setVm vm₁).calling g' mk (Value.ref b :: As).toArray, t, U', L, hT, X', hL, e1, e2, hq, st⟩
  · dsimp only [Pt.U, Pt.locs, Pt.cells, Pt.slots] at X' e1 e2 h1 h2 h3 st hcl
    subst h1; subst h2; subst h3
    exact Or.inr ⟨q, (T.setVm vm₁).calling g' mk (Value.ref b :: As).toArray, t, U', L, E, ce, hT, X', hL, e1, e2, hq, hce, hcv, vx_cls hW₁ hcl, st⟩
theorem vx_runS (S : CallFix p m c cc nL s args Ts own) (hM : vx_Met l y ws rm Pc Qc XC mc ms free) (cw : CallB R s args own index y bytes maxL ret ws rm mc ms n ∧ (Cond.static y).before args s = true) (hp : PreS s H Pc As)
    (hg : g.method = m) (hn : As.length = n) (hsize : g.locals.size = nL) (hstack : g.stack = As.reverse ++ rest) (hW : 2 * g.monitorRoom + (rest.map fun v => v.category).sum ≤ 8) (hdg : decode cc g.pc = .ok (.invokestatic index, 3)) (hf : cells + mc ≤ R.cells ∧ slots + ms ≤ R.slots) :
    vx_Run p l e R s m args below meth c H locs cells slots mc ms g rest (Qc As.toArray) XC free := by
  have hK : vx_Back l R p e below s args y 3 8 (PreOf R mc ms Pc) (PostOf Qc mc ms free) (vx_Post XC mc ms free) := vx_callBack cw.1 hM hp.1
  obtain ⟨⟨-, -, -, -, -, -, hcode, hini, hy, hlen, hl⟩, hstt⟩ := cw
  obtain ⟨hx, hb, hml, ho, -⟩ := S
  intro T hT X
  rcases vx_callS X hx (bytes := bytes) (maxL := maxL) (ret := ret) ho hl hstt hini hcode hy hK hg (hsize.trans hml.symm) (argsL := As) (rest := rest) (fun sig h => hn.trans (hlen sig h)) hstack hW (by rw [hb]; exact hdg)
    (fun vm₁ hW₁ => ⟨hf.1, hf.2, hp.2 (T.setVm vm₁) hT hW₁⟩) with ⟨v, vm₁, ⟨U', l2, c2, s2⟩, hW₁, X', ⟨g', mk, t, L, e1, e2, hq, h1, hL, h2, h3⟩, st⟩ | ⟨q, vm₁, ⟨U', l2, c2, s2⟩, hW₁, X', ⟨g', mk, t, L, E, ce, e1, e2, hq, hce, hcv, hcl, h1, hL, h2, h3⟩, st⟩
  · dsimp only [Pt.U, Pt.locs, Pt.cells, Pt.slots] at X' e1 e2 h1 h2 h3 st
    subst h1; subst h2; subst h3
    exact Or.inl ⟨v, (T.setVm vm₁).calling g' mk As.toArray, t, U', L, hT, X', hL, e1, e2, hq, st⟩
  · dsimp only [Pt.U, Pt.locs, Pt.cells, Pt.slots] at X' e1 e2 h1 h2 h3 st hcl
    subst h1; subst h2; subst h3
    exact Or.inr ⟨q, (T.setVm vm₁).calling g' mk As.toArray, t, U', L, E, ce, hT, X', hL, e1, e2, hq, hce, hcv, vx_cls hW₁ hcl, st⟩
end Runs
section Rows
variable {p : Program} {l : Launch} {e : Env} {R : Room} {s : State} {m : MethodId} {args : Array Value} {below : List Frame} {meth : Method} {c : Code} {H : Heap} {locs : List Loc} {cells slots : Nat} {Q : State → Prop}
variable {mc ms : Nat} {free : Addr → Prop} {A0 A1 : Nat → Prop} {H0 : Heap} {a : Array Value} {pc : Nat} {ls : Array Slot} {st0 rest : List Value}
theorem vx_keep {st₀ t T' : State} {L : List Loc} (h0 : st₀.heap = H) (e1 : T'.heap = t.heap) (hS : va_S A0 H0 H locs) (hA : ∀ q, q < H.size → A1 q → A0 q) (hf : ∀ q, free q → A0 q) (hL : ∀ q ∈ L, free q.base) (hF : va_F A1 st₀ t) :
    H.size ≤ T'.heap.size ∧ (∀ q : Nat, q < H.size → ¬ A1 q → T'.heap[q]? = H[q]?) ∧ va_S A0 H0 T'.heap (locs ++ L) := by
  obtain ⟨hz, hk⟩ := hF
  rw [h0] at hz hk
  exact ⟨by rw [e1]; exact hz, fun q h1 h2 => by rw [e1]; exact hk q h1 h2,
    ⟨Nat.le_trans hS.1 (by rw [e1]; exact hz), fun q h1 h2 => by rw [e1, hk q (Nat.lt_of_lt_of_le h1 hS.1) (fun z => h2 (hA q (Nat.lt_of_lt_of_le h1 hS.1) z))]; exact hS.2.1 q h1 h2, fun q hq => by
      rcases List.mem_append.mp hq with h | h
      · exact hS.2.2 q h
      · exact hf _ (hL q h)⟩⟩
theorem vx_calli {S SX : Type} {post : Int32 → S → Prop} {px : SX → Prop} {B : S → State → Prop} {BX : String → SX → State → Prop} {AX : Nat → Prop} (hr : vx_Run p l e R s m args below meth c H locs cells slots mc ms (F0 m pc ls st0) rest (va_Qi post B A1 a) (vx_X px BX AX) free) (hS : va_S A0 H0 H locs) (hA : ∀ q, q < H.size → A1 q → A0 q) (hf : ∀ q, free q → A0 q) (hAX : ∀ q, q < H.size → AX q → A0 q)
    (kx : ∀ (E : String) (ce : Cell) (q9 : Addr) (u : SX) (t : State) (H1 : Heap) (locs1 : List Loc), t.heap = H1 → s.vm.Alike t.vm → px u → BX E u t → H.size ≤ H1.size → (∀ q : Nat, q < H.size → ¬ AX q → H1[q]? = H[q]?) → va_S A0 H0 H1 locs1 → H1[q9]? = some ce → ce.vm = .none → s.vm.findClass E = some ce.cls → vx_W p l e R s m args below meth c H1 locs1 (cells + mc) (slots + ms) Q (F0 m pc ls rest) q9)
    (kk : ∀ (r : Int32) (u : S) (t : State) (H1 : Heap) (locs1 : List Loc), t.heap = H1 → s.vm.Alike t.vm → post r u → B u t → H.size ≤ H1.size → (∀ q : Nat, q < H.size → ¬ A1 q → H1[q]? = H[q]?) → va_S A0 H0 H1 locs1 → W p l e R s m args below meth c H1 locs1 (cells + mc) (slots + ms) Q (F0 m (pc + 3) ls (.int r :: rest))) : W p l e R s m args below meth c H locs cells slots Q (F0 m pc ls st0) := by
  intro T hT X
  rcases hr T hT X with ⟨v, st₀, t, T', L, h0, X', hL, e1, e2, ⟨⟨r, u, hv, hp, hb⟩, hF⟩, st⟩ | ⟨q, st₀, t, T', L, E, ce, h0, X', hL, e1, e2, ⟨u, hp, hb, hF⟩, hce, hcv, hcl, st⟩
  · cases hv
    obtain ⟨k1, k2, k3⟩ := vx_keep h0 e1 hS hA hf hL hF
    obtain ⟨t2, a1, b1⟩ := kk r u t T'.heap (locs ++ L) e1.symm (by rw [← e2]; exact X'.warmed.alike) hp hb k1 k2 k3 T' rfl X'
    exact ⟨t2, st t2 a1, b1⟩
  · obtain ⟨k1, k2, k3⟩ := vx_keep h0 e1 hS hAX hf hL hF
    obtain ⟨t2, a1, b1⟩ := kx E ce q u t T'.heap (locs ++ L) e1.symm (by rw [← e2]; exact X'.warmed.alike) hp hb k1 k2 k3 (by rw [e1]; exact hce) hcv hcl T' rfl X'
    exact ⟨t2, st.trans a1, b1⟩
theorem vx_calll {S SX : Type} {post : Int64 → S → Prop} {px : SX → Prop} {B : S → State → Prop} {BX : String → SX → State → Prop} {AX : Nat → Prop} (hr : vx_Run p l e R s m args below meth c H locs cells slots mc ms (F0 m pc ls st0) rest (va_Ql post B A1 a) (vx_X px BX AX) free) (hS : va_S A0 H0 H locs) (hA : ∀ q, q < H.size → A1 q → A0 q) (hf : ∀ q, free q → A0 q) (hAX : ∀ q, q < H.size → AX q → A0 q)
    (kx : ∀ (E : String) (ce : Cell) (q9 : Addr) (u : SX) (t : State) (H1 : Heap) (locs1 : List Loc), t.heap = H1 → s.vm.Alike t.vm → px u → BX E u t → H.size ≤ H1.size → (∀ q : Nat, q < H.size → ¬ AX q → H1[q]? = H[q]?) → va_S A0 H0 H1 locs1 → H1[q9]? = some ce → ce.vm = .none → s.vm.findClass E = some ce.cls → vx_W p l e R s m args below meth c H1 locs1 (cells + mc) (slots + ms) Q (F0 m pc ls rest) q9)
    (kk : ∀ (r : Int64) (u : S) (t : State) (H1 : Heap) (locs1 : List Loc), t.heap = H1 → s.vm.Alike t.vm → post r u → B u t → H.size ≤ H1.size → (∀ q : Nat, q < H.size → ¬ A1 q → H1[q]? = H[q]?) → va_S A0 H0 H1 locs1 → W p l e R s m args below meth c H1 locs1 (cells + mc) (slots + ms) Q (F0 m (pc + 3) ls (.long r :: rest))) : W p l e R s m args below meth c H locs cells slots Q (F0 m pc ls st0) := by
  intro T hT X
  rcases hr T hT X with ⟨v, st₀, t, T', L, h0, X', hL, e1, e2, ⟨⟨r, u, hv, hp, hb⟩, hF⟩, st⟩ | ⟨q, st₀, t, T', L, E, ce, h0, X', hL, e1, e2, ⟨u, hp, hb, hF⟩, hce, hcv, hcl, st⟩
  · cases hv
    obtain ⟨k1, k2, k3⟩ := vx_keep h0 e1 hS hA hf hL hF
    obtain ⟨t2, a1, b1⟩ := kk r u t T'.heap (locs ++ L) e1.symm (by rw [← e2]; exact X'.warmed.alike) hp hb k1 k2 k3 T' rfl X'
    exact ⟨t2, st t2 a1, b1⟩
  · obtain ⟨k1, k2, k3⟩ := vx_keep h0 e1 hS hAX hf hL hF
    obtain ⟨t2, a1, b1⟩ := kx E ce q u t T'.heap (locs ++ L) e1.symm (by rw [← e2]; exact X'.warmed.alike) hp hb k1 k2 k3 (by rw [e1]; exact hce) hcv hcl T' rfl X'
    exact ⟨t2, st.trans a1, b1⟩
theorem vx_callf {S SX : Type} {post : UInt32 → S → Prop} {px : SX → Prop} {B : S → State → Prop} {BX : String → SX → State → Prop} {AX : Nat → Prop} (hr : vx_Run p l e R s m args below meth c H locs cells slots mc ms (F0 m pc ls st0) rest (va_Qf post B A1 a) (vx_X px BX AX) free) (hS : va_S A0 H0 H locs) (hA : ∀ q, q < H.size → A1 q → A0 q) (hf : ∀ q, free q → A0 q) (hAX : ∀ q, q < H.size → AX q → A0 q)
    (kx : ∀ (E : String) (ce : Cell) (q9 : Addr) (u : SX) (t : State) (H1 : Heap) (locs1 : List Loc), t.heap = H1 → s.vm.Alike t.vm → px u → BX E u t → H.size ≤ H1.size → (∀ q : Nat, q < H.size → ¬ AX q → H1[q]? = H[q]?) → va_S A0 H0 H1 locs1 → H1[q9]? = some ce → ce.vm = .none → s.vm.findClass E = some ce.cls → vx_W p l e R s m args below meth c H1 locs1 (cells + mc) (slots + ms) Q (F0 m pc ls rest) q9)
    (kk : ∀ (r : UInt32) (u : S) (t : State) (H1 : Heap) (locs1 : List Loc), t.heap = H1 → s.vm.Alike t.vm → post r u → B u t → H.size ≤ H1.size → (∀ q : Nat, q < H.size → ¬ A1 q → H1[q]? = H[q]?) → va_S A0 H0 H1 locs1 → W p l e R s m args below meth c H1 locs1 (cells + mc) (slots + ms) Q (F0 m (pc + 3) ls (.float r :: rest))) : W p l e R s m args below meth c H locs cells slots Q (F0 m pc ls st0) := by
  intro T hT X
  rcases hr T hT X with ⟨v, st₀, t, T', L, h0, X', hL, e1, e2, ⟨⟨r, u, hv, hp, hb⟩, hF⟩, st⟩ | ⟨q, st₀, t, T', L, E, ce, h0, X', hL, e1, e2, ⟨u, hp, hb, hF⟩, hce, hcv, hcl, st⟩
  · cases hv
    obtain ⟨k1, k2, k3⟩ := vx_keep h0 e1 hS hA hf hL hF
    obtain ⟨t2, a1, b1⟩ := kk r u t T'.heap (locs ++ L) e1.symm (by rw [← e2]; exact X'.warmed.alike) hp hb k1 k2 k3 T' rfl X'
    exact ⟨t2, st t2 a1, b1⟩
  · obtain ⟨k1, k2, k3⟩ := vx_keep h0 e1 hS hAX hf hL hF
    obtain ⟨t2, a1, b1⟩ := kx E ce q u t T'.heap (locs ++ L) e1.symm (by rw [← e2]; exact X'.warmed.alike) hp hb k1 k2 k3 (by rw [e1]; exact hce) hcv hcl T' rfl X'
    exact ⟨t2, st.trans a1, b1⟩
theorem vx_calld {S SX : Type} {post : UInt64 → S → Prop} {px : SX → Prop} {B : S → State → Prop} {BX : String → SX → State → Prop} {AX : Nat → Prop} (hr : vx_Run p l e R s m args below meth c H locs cells slots mc ms (F0 m pc ls st0) rest (va_Qd post B A1 a) (vx_X px BX AX) free) (hS : va_S A0 H0 H locs) (hA : ∀ q, q < H.size → A1 q → A0 q) (hf : ∀ q, free q → A0 q) (hAX : ∀ q, q < H.size → AX q → A0 q)
    (kx : ∀ (E : String) (ce : Cell) (q9 : Addr) (u : SX) (t : State) (H1 : Heap) (locs1 : List Loc), t.heap = H1 → s.vm.Alike t.vm → px u → BX E u t → H.size ≤ H1.size → (∀ q : Nat, q < H.size → ¬ AX q → H1[q]? = H[q]?) → va_S A0 H0 H1 locs1 → H1[q9]? = some ce → ce.vm = .none → s.vm.findClass E = some ce.cls → vx_W p l e R s m args below meth c H1 locs1 (cells + mc) (slots + ms) Q (F0 m pc ls rest) q9)
    (kk : ∀ (r : UInt64) (u : S) (t : State) (H1 : Heap) (locs1 : List Loc), t.heap = H1 → s.vm.Alike t.vm → post r u → B u t → H.size ≤ H1.size → (∀ q : Nat, q < H.size → ¬ A1 q → H1[q]? = H[q]?) → va_S A0 H0 H1 locs1 → W p l e R s m args below meth c H1 locs1 (cells + mc) (slots + ms) Q (F0 m (pc + 3) ls (.double r :: rest))) : W p l e R s m args below meth c H locs cells slots Q (F0 m pc ls st0) := by
  intro T hT X
  rcases hr T hT X with ⟨v, st₀, t, T', L, h0, X', hL, e1, e2, ⟨⟨r, u, hv, hp, hb⟩, hF⟩, st⟩ | ⟨q, st₀, t, T', L, E, ce, h0, X', hL, e1, e2, ⟨u, hp, hb, hF⟩, hce, hcv, hcl, st⟩
  · cases hv
    obtain ⟨k1, k2, k3⟩ := vx_keep h0 e1 hS hA hf hL hF
    obtain ⟨t2, a1, b1⟩ := kk r u t T'.heap (locs ++ L) e1.symm (by rw [← e2]; exact X'.warmed.alike) hp hb k1 k2 k3 T' rfl X'
    exact ⟨t2, st t2 a1, b1⟩
  · obtain ⟨k1, k2, k3⟩ := vx_keep h0 e1 hS hAX hf hL hF
    obtain ⟨t2, a1, b1⟩ := kx E ce q u t T'.heap (locs ++ L) e1.symm (by rw [← e2]; exact X'.warmed.alike) hp hb k1 k2 k3 (by rw [e1]; exact hce) hcv hcl T' rfl X'
    exact ⟨t2, st.trans a1, b1⟩
theorem vx_callv {S SX : Type} {post : S → Prop} {px : SX → Prop} {B : S → State → Prop} {BX : String → SX → State → Prop} {AX : Nat → Prop} (hr : vx_Run p l e R s m args below meth c H locs cells slots mc ms (F0 m pc ls st0) rest (va_Qv post B A1 a) (vx_X px BX AX) free) (hS : va_S A0 H0 H locs) (hA : ∀ q, q < H.size → A1 q → A0 q) (hf : ∀ q, free q → A0 q) (hAX : ∀ q, q < H.size → AX q → A0 q)
    (kx : ∀ (E : String) (ce : Cell) (q9 : Addr) (u : SX) (t : State) (H1 : Heap) (locs1 : List Loc), t.heap = H1 → s.vm.Alike t.vm → px u → BX E u t → H.size ≤ H1.size → (∀ q : Nat, q < H.size → ¬ AX q → H1[q]? = H[q]?) → va_S A0 H0 H1 locs1 → H1[q9]? = some ce → ce.vm = .none → s.vm.findClass E = some ce.cls → vx_W p l e R s m args below meth c H1 locs1 (cells + mc) (slots + ms) Q (F0 m pc ls rest) q9)
    (kk : ∀ (u : S) (t : State) (H1 : Heap) (locs1 : List Loc), t.heap = H1 → s.vm.Alike t.vm → post u → B u t → H.size ≤ H1.size → (∀ q : Nat, q < H.size → ¬ A1 q → H1[q]? = H[q]?) → va_S A0 H0 H1 locs1 → W p l e R s m args below meth c H1 locs1 (cells + mc) (slots + ms) Q (F0 m (pc + 3) ls (rest))) : W p l e R s m args below meth c H locs cells slots Q (F0 m pc ls st0) := by
  intro T hT X
  rcases hr T hT X with ⟨v, st₀, t, T', L, h0, X', hL, e1, e2, ⟨⟨u, hv, hp, hb⟩, hF⟩, st⟩ | ⟨q, st₀, t, T', L, E, ce, h0, X', hL, e1, e2, ⟨u, hp, hb, hF⟩, hce, hcv, hcl, st⟩
  · cases hv
    obtain ⟨k1, k2, k3⟩ := vx_keep h0 e1 hS hA hf hL hF
    obtain ⟨t2, a1, b1⟩ := kk u t T'.heap (locs ++ L) e1.symm (by rw [← e2]; exact X'.warmed.alike) hp hb k1 k2 k3 T' rfl X'
    exact ⟨t2, st t2 a1, b1⟩
  · obtain ⟨k1, k2, k3⟩ := vx_keep h0 e1 hS hAX hf hL hF
    obtain ⟨t2, a1, b1⟩ := kx E ce q u t T'.heap (locs ++ L) e1.symm (by rw [← e2]; exact X'.warmed.alike) hp hb k1 k2 k3 (by rw [e1]; exact hce) hcv hcl T' rfl X'
    exact ⟨t2, st.trans a1, b1⟩
end Rows
section Ends
variable {p : Program} {l : Launch} {e : Env} {R : Room} {s : State} {m : MethodId} {args : Array Value} {below : List Frame} {meth : Method} {c : Code} {H : Heap} {locs : List Loc} {cells slots : Nat} {Q : State → Prop}
variable {mc ms : Nat} {free : Addr → Prop} {A0 A1 : Nat → Prop} {H0 : Heap} {a : Array Value} {ls : Array Slot} {st0 rest : List Value}
variable {Qc : Array Value → State → Outcome → State → Prop} {XC : String → State → State → Prop}
/-- what a body that may throw owes at its end -/
def vx_MQ (below : List Frame) (Qc : Array Value → State → Outcome → State → Prop) (XC : String → State → State → Prop) (a : Array Value) (s : State) (mc ms : Nat) (free : Addr → Prop) : State → Prop := fun t =>
  ∃ o, t.status = .running ∧ Ended t below o ∧ vx_Q Qc XC mc ms free a s o t
theorem vx_ret {g : JFrame} {mc ms : Nat} (k : W p l e R s m args below meth c H locs cells slots (MQ below Qc args s mc ms free) g) : W p l e R s m args below meth c H locs cells slots (vx_MQ below Qc XC args s mc ms free) g := by
  intro T hT X
  obtain ⟨t, a1, o, b1, b2, b3, b4⟩ := k T hT X
  exact ⟨t, a1, o, b1, b2, Or.inl ⟨b3, b4⟩⟩
/-- not caught here: it goes on to the caller -/
theorem vx_widen {g : JFrame} {q : Addr} {k n : Nat} (h1 : cells ≤ k) (h2 : slots ≤ n) (kk : vx_W p l e R s m args below meth c H locs k n Q g q) : vx_W p l e R s m args below meth c H locs cells slots Q g q := fun T hT X => kk T hT (stand_widen X h1 h2)
theorem vx_out {pc : Nat} {E : String} {ce : Cell} {q : Addr} {mc ms : Nat} (hout : ∀ x ∈ c.exceptionTable.toList, covers x pc = false) (hlocks : meth.locks = false) (hcell : H[q]? = some ce) (hv : ce.vm = .none) (hcl : s.vm.findClass E = some ce.cls)
    (hx : ∀ t : State, t.heap = H → s.vm.Alike t.vm → XC E s t) (hf : ∀ z ∈ locs, free z.base) (hc : cells ≤ mc) (hs : slots ≤ ms) :
    vx_W p l e R s m args below meth c H locs cells slots (vx_MQ below Qc XC args s mc ms free) (F0 m pc ls rest) q := by
  intro T hT X
  obtain ⟨st1, hrun, hend, hW, hsm⟩ := X.leaveThrown q (g := F0 m pc ls rest) rfl rfl rfl hout hlocks
  have hcell9 : (T.setFrames (.throwing q :: below)).heap[q]? = some ce := by
    show T.heap[q]? = some ce
    rw [hT]; exact hcell
  exact ⟨_, st1, .threw q, hrun, hend, Or.inr ⟨q, rfl, E, ce, locs, hx _ hT hW.alike, hcell9, hv, hcl, hW, hsm.mono hc hs, hf⟩⟩
theorem vx_frame {U : State} {k n : Nat} (h : s.sameButNew ({ U with vm := s.vm } : State) locs k n) : s.heap.size ≤ U.heap.size ∧ ∀ q : Nat, q < s.heap.size → (∀ z ∈ locs, z.base ≠ q) → U.heap[q]? = s.heap[q]? := by
  obtain ⟨-, h2, -, -, -, h6⟩ := h
  refine ⟨h2, fun q hq hz => ?_⟩
  obtain ⟨c9, e1, e2, e3, e4⟩ := h6 q _ (Array.getElem?_eq_getElem hq)
  have hs : c9.slots = (s.heap[q]).slots := Array.ext_getElem? fun i => e4 i fun hm => hz _ hm rfl
  have h9 : c9 = s.heap[q] := by
    rw [hs] at e2
    exact e2
  have e5 : U.heap[q]? = some c9 := e1
  rw [e5, h9, Array.getElem?_eq_getElem hq]
/-- the words of a throw but the four that speak of the heap -/
def vx_no (w : Cond) : Bool := decide (w ≠ .isRef (.static Bundle.tN "UNASSIGNED_STACK" Bundle.steD)) && decide (w ≠ .isRef (.static Bundle.tN "SUPPRESSED_SENTINEL" Bundle.listD)) && decide (w ≠ .laysStatic Bundle.tN "UNASSIGNED_STACK" Bundle.steD) && decide (w ≠ .laysStatic Bundle.tN "SUPPRESSED_SENTINEL" Bundle.listD)
def vx_at0 (own : String) (ic : Nat) (X : String) (names : List String) : List Cond := (Bundle.ownAtoms0 own ic X names).filter vx_no
def vx_atS (own : String) (ic : Nat) (X : String) (names : List String) : List Cond := (Bundle.ownAtoms own ic X names).filter vx_no
/-- a word that the tables alone decide, or a good one -/
def vx_ot (w : Cond) : Bool := w.onTables || goodWord w
theorem vx_ot_at {args a' : Array Value} {s U : State} {w : Cond} (hW : s.WarmedH U.vm) (hvm : s.vm = U.vm) (hg : vx_ot w = true) (h : w.before args s = true) : w.before a' U = true := by
  simp only [vx_ot, Bool.or_eq_true] at hg
  rcases hg with hg | hg
  · exact va_tabs hg hvm h
  · exact word_at hW (good_of_word hg) h
/-- a list's words: the good ones out of the method's own list, the others by premises of their own -/
theorem vx_hat {args : Array Value} {s : State} {L B : List Cond} (h1 : ∀ w ∈ L.filter goodWord, w.before args s = true) (h2 : ∀ w ∈ L.filter (fun w => !goodWord w), w ∈ B) (h3 : ∀ w ∈ B, w.before args s = true) : ∀ w ∈ L, w.before args s = true := by
  intro w hw
  by_cases g : goodWord w = true
  · exact h1 w (List.mem_filter.mpr ⟨hw, g⟩)
  · refine h3 w (h2 w (List.mem_filter.mpr ⟨hw, ?_⟩))
    show (!goodWord w) = true
    cases hgw : goodWord w
    · rfl
    · exact absurd hgw g
theorem vx_c {args : Array Value} {s : State} {w : Cond} {B : List Cond} (h : w.before args s = true) (t : ∀ w ∈ B, w.before args s = true) : ∀ w' ∈ w :: B, w'.before args s = true := fun w' h' => (List.mem_cons.mp h').elim (fun e => by rw [e]; exact h) (t w')
theorem vx_n {args : Array Value} {s : State} : ∀ w ∈ ([] : List Cond), w.before args s = true := fun _ h => nomatch h
theorem vx_own {args : Array Value} {s : State} {L : List Cond} (h1 : ∀ w ∈ L.filter vx_no, w.before args s = true)
    (hU : (Cond.isRef (.static Bundle.tN "UNASSIGNED_STACK" Bundle.steD)).before args s = true) (hN : (Cond.isRef (.static Bundle.tN "SUPPRESSED_SENTINEL" Bundle.listD)).before args s = true)
    (lU : (Cond.laysStatic Bundle.tN "UNASSIGNED_STACK" Bundle.steD).before args s = true) (lN : (Cond.laysStatic Bundle.tN "SUPPRESSED_SENTINEL" Bundle.listD).before args s = true) : ∀ w ∈ L, w.before args s = true := by
  intro w hw
  by_cases e1 : w = .isRef (.static Bundle.tN "UNASSIGNED_STACK" Bundle.steD)
  · rw [e1]; exact hU
  · by_cases e2 : w = .isRef (.static Bundle.tN "SUPPRESSED_SENTINEL" Bundle.listD)
    · rw [e2]; exact hN
    · by_cases e3 : w = .laysStatic Bundle.tN "UNASSIGNED_STACK" Bundle.steD
      · rw [e3]; exact lU
      · by_cases e4 : w = .laysStatic Bundle.tN "SUPPRESSED_SENTINEL" Bundle.listD
        · rw [e4]; exact lN
        · exact h1 w (List.mem_filter.mpr ⟨hw, by unfold vx_no; rw [decide_eq_true e1, decide_eq_true e2, decide_eq_true e3, decide_eq_true e4]; rfl⟩)
/-- where a static field lies, its class's statics cell in H -/
def vx_L (C n d : String) (A : Nat → Prop) (U : State) (H : Heap) : Prop := ∃ (c : ClassId) (k : Class) (i : Nat) (f : Field) (a : Nat) (cell : Cell), U.vm.findClass C = some c ∧ U.fieldFound? C n d = some (c, k, i, f) ∧ f.isStatic = true ∧ k.statics = some a ∧ H[a]? = some cell ∧ cell.vm.isStatics = true ∧ cell.cls = c ∧ f.slot < cell.slots.size ∧ k.staticTypes[f.slot]? = some f.type ∧ ¬ A a
theorem vx_L.moved {C n d : String} {A : Nat → Prop} {u U : State} {H : Heap} (hvm : u.vm.Alike U.vm) (h : vx_L C n d A u H) : vx_L C n d A U H := by
  obtain ⟨c, k, i, f, a, cell, h1, h2, h3, h4, h5, h6, h7, h8, h9, h10⟩ := h
  obtain ⟨k', hi', he⟩ := State.fieldFound?_setVm hvm h2
  exact ⟨c, k', i, f, a, cell, by rw [hvm.findClass]; exact h1, hi', h3, by rw [he]; exact h4, h5, h6, h7, h8, by rw [he]; exact h9, h10⟩
theorem vx_L.kept {C n d : String} {A : Nat → Prop} {U : State} {H H1 : Heap} (h : vx_L C n d A U H) (hq : ∀ a : Nat, a < H.size → ¬ A a → H1[a]? = H[a]?) : vx_L C n d A U H1 := by
  obtain ⟨c, k, i, f, a, cell, h1, h2, h3, h4, h5, h6, h7, h8, h9, h10⟩ := h
  exact ⟨c, k, i, f, a, cell, h1, h2, h3, h4, by rw [hq a (Array.getElem?_eq_some_iff.mp h5).1 h10]; exact h5, h6, h7, h8, h9, h10⟩
theorem vx_L.narrow {C n d : String} {A B : Nat → Prop} {U : State} {H : Heap} (h : vx_L C n d A U H) (hAB : ∀ q, B q → A q) : vx_L C n d B U H := by
  obtain ⟨c, k, i, f, a, cell, h1, h2, h3, h4, h5, h6, h7, h8, h9, h10⟩ := h
  exact ⟨c, k, i, f, a, cell, h1, h2, h3, h4, h5, h6, h7, h8, h9, fun z => h10 (hAB _ z)⟩
theorem vx_L.word {C n d : String} {A : Nat → Prop} {s : State} {args : Array Value} (h : vx_L C n d A s s.heap) : (Cond.laysStatic C n d).before args s = true := by
  obtain ⟨c, k, i, f, a, cell, h1, h2, h3, h4, h5, h6, h7, h8, h9, -⟩ := h
  show (Cond.laysStatic C n d).holds args s none s [] = true
  exact Cond.laysStatic_of h1 h2 h3 h4 h5 h6 h7 h8 h9
/-- .. and what it holds: null or some reference -/
def vx_Zq (C n d : String) (A : Nat → Prop) (U : State) (H : Heap) : Prop := va_Zq C n d A U H ∧ vx_L C n d A U H
theorem vx_Zq.moved {C n d : String} {A : Nat → Prop} {u U : State} {H : Heap} (hvm : u.vm.Alike U.vm) (h : vx_Zq C n d A u H) : vx_Zq C n d A U H := ⟨va_Zq.moved hvm h.1, vx_L.moved hvm h.2⟩
theorem vx_Zq.kept {C n d : String} {A : Nat → Prop} {U : State} {H H1 : Heap} (h : vx_Zq C n d A U H) (hq : ∀ a : Nat, a < H.size → ¬ A a → H1[a]? = H[a]?) : vx_Zq C n d A U H1 := ⟨va_Zq.kept h.1 hq, vx_L.kept h.2 hq⟩
theorem vx_Zq.narrow {C n d : String} {A B : Nat → Prop} {U : State} {H : Heap} (h : vx_Zq C n d A U H) (hAB : ∀ q, B q → A q) : vx_Zq C n d B U H := ⟨va_Zq.narrow h.1 hAB, vx_L.narrow h.2 hAB⟩
theorem vx_Zqof {args : Array Value} {s : State} {C n d : String} {A : Nat → Prop} (hl : (Cond.laysStatic C n d).before args s = true) (hini : (Cond.initialized C).before args s = true) (h : (Cond.isRef (.static C n d)).before args s = true) (hA : ∀ a : Nat, a < s.heap.size → ¬ A a) : vx_Zq C n d A s s.heap := by
  refine ⟨va_Zqof hl hini h hA, ?_⟩
  obtain ⟨c, k, i, f, a, cell, h1, h2, h3, h4, h5, h6, h7, h8, h9⟩ := Cond.laysStatic_spec hl
  exact ⟨c, k, i, f, a, cell, h1, h2, h3, h4, h5, h6, h7, h8, h9, hA a (Array.getElem?_eq_some_iff.mp h5).1⟩
theorem vx_isRef {C n d : String} {v : Value} {A : Nat → Prop} {s : State} {args : Array Value} (h : va_Z C n d v A s s.heap) (hv : v.isRef = true) : (Cond.isRef (.static C n d)).before args s = true := by
  obtain ⟨cf, kf, fi, f, a, cell, h1, h2, h3, h4, h5, h6, h7, -⟩ := h
  have he : (Term.static C n d).eval args s none [] s = some v := by
    simp [Term.eval, State.fieldNamed?, h1, h2, h4, h5, h6, h7]
  simp only [Cond.before, Cond.holds, Cond.value, he]
  cases v <;> simp_all [Value.isRef]
theorem vx_isRefq {C n d : String} {A : Nat → Prop} {s : State} {args : Array Value} (h : va_Zq C n d A s s.heap) : (Cond.isRef (.static C n d)).before args s = true := by
  rcases h with h | ⟨t, h⟩
  · exact vx_isRef h rfl
  · exact vx_isRef h rfl
/-- the same frame, seen from here: as if the method were called anew in this heap -/
theorem vx_rebase {T : State} (X : Stand p l e R s m args below meth c T locs cells slots) {R' : Room} (hf : R'.frames ≤ R.frames) (hl : R'.locals ≤ R.locals) (hc : cells + R'.cells ≤ R.cells) (hs : slots + R'.slots ≤ R.slots) :
    Stand p l e R' ((T.setVm s.vm).setFrames (.invoking m args :: below)) m args below meth c T [] 0 0 := by
  have htop : (T.setVm s.vm).topJava?.isSome := X.here.top
  have hF : ((T.setVm s.vm).setFrames (.invoking m args :: below)).frames = .invoking m args :: below := State.frames_setFrames _ (State.cur_lt_of_top htop)
  obtain ⟨g₀, hg0⟩ := Option.isSome_iff_exists.mp htop
  obtain ⟨r, hr⟩ := State.topJava?_eq_some.mp hg0
  have hl9 : e.platform.stackLimits (T.setVm s.vm).me = e.platform.stackLimits s.me := X.limits
  have hb9 : (T.setVm s.vm).me.stackBytes = s.me.stackBytes := X.bytes
  refine ⟨X.admits, X.cas, X.clock, hF, ?_, X.hears, X.method, X.code, X.here, X.tail, X.warmed, ?_, ?_, ?_⟩
  · have h := X.room
    have hU : ((T.setVm s.vm).setFrames (.invoking m args :: below)).localsInUse = s.localsInUse := by
      rw [State.localsInUse_invoking hF (meth := meth) (c := c) X.method X.code, State.localsInUse_invoking X.frames X.method X.code]
    simp only [State.hasRoom, Bool.and_eq_true, decide_eq_true_eq] at h ⊢
    obtain ⟨⟨⟨⟨h1, h2, h3, h4, h5, h6⟩, h7⟩, h8⟩, h9⟩ := h
    rw [X.frames, List.length_cons] at h2 h3
    have q1 := X.heapSize
    have q2 := X.used
    simp only [hF, hU, List.length_cons, State.stackLimits_setFrames, State.stackBytes_setFrames, hl9, hb9]
    refine ⟨⟨⟨⟨by omega, by omega, by omega, by omega, by omega, h6⟩, ?_⟩, ?_⟩, X.book⟩
    · show T.heap.size + R'.cells ≤ e.platform.maxCells
      omega
    · show T.slotsUsed + R'.slots ≤ e.platform.maxSlots
      omega
  · rw [State.stackLimits_setFrames]; rfl
  · rw [State.stackBytes_setFrames]; rfl
  · refine ⟨?_, Nat.le_refl _, Nat.le_refl _, ?_, ?_, fun a c9 h9 => ⟨c9, h9, rfl, rfl, fun _ _ => rfl⟩⟩
    · obtain ⟨t, ht, -⟩ := State.frames_cons hr
      show T.setVm s.vm = { ((T.setVm s.vm).setFrames (.invoking m args :: below)).setFrames (T.setVm s.vm).frames with heap := T.heap, slotsUsed := T.slotsUsed }
      rw [State.setFrames_setFrames, State.setFrames_self ht]
      rfl
    · show T.slotsUsed = T.slotsUsed + ((T.heap.toList.drop T.heap.size).map (·.slots.size)).sum
      rw [List.drop_eq_nil_of_le (Nat.le_of_eq Array.length_toList)]
      rfl
    · show ((T.heap.toList.drop T.heap.size).map (·.slots.size)).sum ≤ 0
      rw [List.drop_eq_nil_of_le (Nat.le_of_eq Array.length_toList)]
      exact Nat.le_refl _
/-- 'throw new E()': new; dup; invokespecial; athrow -/
theorem vx_throw0 {cc : ByteArray} {pc : Nat} (hexec : p.tables.exec = Jvm.exec) (hb : c.code = cc) (hl : l.stackTraces = false) {own cls : String} {names : List String} {ik ic mc ms : Nat} {A : Nat → Prop}
    (hown : s.vm.findClass own = some m.cls) (hcls : Bundle.fit cls = true) (hnames : ∀ n ∈ names, Bundle.fit n = true)
    (hk : (Cond.classLink own ik cls).before args s = true) (hini : (Cond.initialized cls).before args s = true) (hat : ∀ w ∈ vx_at0 own ic cls names, w.before args s = true)
    (hgood : ∀ w ∈ Cond.classLink own ik cls :: Cond.initialized cls :: vx_at0 own ic cls names, vx_ot w = true)
    (hU : vx_Zq Bundle.tN "UNASSIGNED_STACK" Bundle.steD A s s.heap) (hN : vx_Zq Bundle.tN "SUPPRESSED_SENTINEL" Bundle.listD A s s.heap) (hS : va_S A s.heap H locs) (hsize : ls.size = c.maxLocals)
    (d0 : decode cc pc = .ok (.new ik, 3)) (d3 : decode cc (pc + 3) = .ok (.dup, 1)) (d4 : decode cc (pc + 4) = .ok (.invokespecial ic, 3)) (d7 : decode cc (pc + 7) = .ok (.athrow, 1))
    (hout : ∀ x ∈ c.exceptionTable.toList, covers x (pc + 7) = false)
    (hRframes : names.length + 3 < R.frames) (hRlocals : (rest.map fun v => v.category).sum + (13 * (names.length + 1) + 42) ≤ R.locals) (hRcells : cells + 1 ≤ R.cells) (hRslots : slots + 6 ≤ R.slots) (hlocks : meth.locks = false)
    (hx : ∀ t : State, s.vm.Alike t.vm → H.size ≤ t.heap.size → (∀ q : Nat, q < H.size → t.heap[q]? = H[q]?) → XC cls s t)
    (hf : ∀ z ∈ locs, free z.base) (hc : cells + 1 ≤ mc) (hs : slots + 6 ≤ ms) :
    W p l e R s m args below meth c H locs cells slots (vx_MQ below Qc XC args s mc ms free) (F0 m pc ls rest) := by
  intro T hT X
  have htr : e.platform.stackTraces = false := (show e.platform.stackTraces = l.stackTraces by rw [X.admits.platform]).trans hl
  have Y := vx_rebase X (R' := { frames := R.frames, locals := R.locals, cells := 1, slots := 6 }) (Nat.le_refl _) (Nat.le_refl _) hRcells hRslots
  obtain ⟨s', hA⟩ : ∃ z, z = (T.setVm s.vm).setFrames (.invoking m args :: below) := ⟨_, rfl⟩
  rw [← hA] at Y
  have hvm : s'.vm = s.vm := by rw [hA]; rfl
  have hhp : s'.heap = H := by rw [hA]; exact hT
  have hW0 : s.WarmedH s'.vm := by rw [hvm]; exact State.WarmedH.refl s
  have hat' : ∀ w ∈ vx_at0 own ic cls names, w.before args s' = true := fun w hw => vx_ot_at hW0 hvm.symm (hgood w (List.mem_cons_of_mem _ (List.mem_cons_of_mem _ hw))) (hat w hw)
  have hk' : (Cond.classLink own ik cls).before args s' = true := vx_ot_at hW0 hvm.symm (hgood _ List.mem_cons_self) hk
  have hini' : (Cond.initialized cls).before args s' = true := vx_ot_at hW0 hvm.symm (hgood _ (List.mem_cons_of_mem _ List.mem_cons_self)) hini
  have hU' : vx_Zq Bundle.tN "UNASSIGNED_STACK" Bundle.steD A s' s'.heap := by rw [hhp]; exact vx_Zq.moved hW0.alike (hU.kept hS.2.1)
  have hN' : vx_Zq Bundle.tN "SUPPRESSED_SENTINEL" Bundle.listD A s' s'.heap := by rw [hhp]; exact vx_Zq.moved hW0.alike (hN.kept hS.2.1)
  have h : ∀ w ∈ Bundle.ownAtoms0 own ic cls names, w.before args s' = true := vx_own hat' (vx_isRefq hU'.1) (vx_isRefq hN'.1) hU'.2.word hN'.2.word
  have hown' : s'.vm.findClass own = some m.cls := by rw [hvm]; exact hown
  have hins : (Cond.instantiable cls 6).before args s' = true := h _ (by simp [Bundle.ownAtoms0])
  obtain ⟨vm₁, cX, kX, hfX, hkX, -, -, X₁, st1⟩ := Y.newCold hexec (own := own) (C := cls) (index := ik) (n := 6) hown' hk' hins hini'
    (g := F0 m pc ls rest) rfl (by rw [hb]; exact d0) (Nat.le_refl _) (Nat.le_refl _)
  generalize hT1 : (T.setVm vm₁).pushCell { cls := cX, slots := kX.instanceTypes.map defaultValue, vm := .none } = T1 at X₁ st1
  have hcat : (Value.ref T.heap.size).category = 1 := rfl
  have hcellA : T1.heap[T.heap.size]? = some (freshCell cX kX) := by rw [← hT1]; exact State.heap_pushCell_size _ _
  have d3' : decode c.code (pc + 3) = .ok (.dup, 1) := by rw [hb]; exact d3
  obtain ⟨U, hsteps, hrun, hend, hW, hsame, ce, hce, hO⟩ := X₁.ctorThrow0 hexec htr (own := own) (cls := cls) (names := names) (ic := ic) hown' hcls hnames h (fun x hx => nomatch hx) hfX hkX hcellA (by rw [hhp, hT]; exact Nat.le_refl _)
    (g := { method := m, pc := pc + 4, locals := ls, stack := .ref T.heap.size :: .ref T.heap.size :: rest, locked := none }) rfl hsize rfl rfl (rest := rest) rfl
    (by rw [hb]; exact d4) (by rw [hb]; exact d7) hout hRframes (by simp only [List.map_cons, List.sum_cons, hcat]; omega) hlocks
  obtain ⟨f1, f2⟩ := vx_frame hsame
  rw [hhp] at f1 f2
  have hWs : s.WarmedH U.vm := State.WarmedH.trans hW0 hW
  have hcl : s.vm.findClass cls = some ce.cls := by
    have h9 := hO.cls
    rw [hvm] at h9
    exact h9
  have hall : s.sameButNew ({ U with vm := s.vm } : State) locs mc ms := by
    subst hA
    obtain ⟨e1, e2⟩ := hsame
    rw [State.setFrames_setFrames] at e1
    have h2 : (T.setVm s.vm).sameButNew ({ U with vm := s.vm } : State) [] (0 + 1) (0 + 6) := ⟨e1, e2⟩
    have h3 := X.same.trans h2
    rw [List.append_nil] at h3
    exact h3.mono hc hs
  refine ⟨U, ?_, .threw T.heap.size, hrun, hend, Or.inr ⟨T.heap.size, rfl, cls, ce, locs, hx U hWs.alike f1 (fun q hq => f2 q hq (fun z hz => nomatch hz)), hce, hO.vm, hcl, hWs, hall, hf⟩⟩
  refine st1 _ ?_
  show Steps p.tables e below (T1.setTop { method := m, pc := pc + 3, locals := ls, stack := .ref T.heap.size :: rest, locked := none }) _
  jvm_step X₁.here [X₁.here.top, hexec, d3', Value.category]
  exact hsteps
/-- 'throw new E("text")': new; dup; ldc; invokespecial; athrow -/
theorem vx_throwS {cc : ByteArray} {pc : Nat} (hexec : p.tables.exec = Jvm.exec) (hb : c.code = cc) (hl : l.stackTraces = false) {own cls text : String} {names : List String} {ik is ic mc ms sa : Nat} {A : Nat → Prop}
    (hown : s.vm.findClass own = some m.cls) (hcls : Bundle.fit cls = true) (hnames : ∀ n ∈ names, Bundle.fit n = true)
    (hk : (Cond.classLink own ik cls).before args s = true) (hini : (Cond.initialized cls).before args s = true) (hstr : vk_R own is text sa s) (hat : ∀ w ∈ vx_atS own ic cls names, w.before args s = true)
    (hgood : ∀ w ∈ Cond.classLink own ik cls :: Cond.initialized cls :: vx_atS own ic cls names, vx_ot w = true)
    (hU : vx_Zq Bundle.tN "UNASSIGNED_STACK" Bundle.steD A s s.heap) (hN : vx_Zq Bundle.tN "SUPPRESSED_SENTINEL" Bundle.listD A s s.heap) (hS : va_S A s.heap H locs) (hsize : ls.size = c.maxLocals)
    (d0 : decode cc pc = .ok (.new ik, 3)) (d3 : decode cc (pc + 3) = .ok (.dup, 1)) (d4 : decode cc (pc + 4) = .ok (.ldc is, 2)) (d6 : decode cc (pc + 6) = .ok (.invokespecial ic, 3)) (d9 : decode cc (pc + 9) = .ok (.athrow, 1))
    (hout : ∀ x ∈ c.exceptionTable.toList, covers x (pc + 9) = false)
    (hRframes : names.length + 3 < R.frames) (hRlocals : (rest.map fun v => v.category).sum + (13 * (names.length + 1) + 43) ≤ R.locals) (hRcells : cells + 1 ≤ R.cells) (hRslots : slots + 6 ≤ R.slots) (hlocks : meth.locks = false)
    (hx : ∀ t : State, s.vm.Alike t.vm → H.size ≤ t.heap.size → (∀ q : Nat, q < H.size → t.heap[q]? = H[q]?) → XC cls s t)
    (hf : ∀ z ∈ locs, free z.base) (hc : cells + 1 ≤ mc) (hs : slots + 6 ≤ ms) :
    W p l e R s m args below meth c H locs cells slots (vx_MQ below Qc XC args s mc ms free) (F0 m pc ls rest) := by
  intro T hT X
  have htr : e.platform.stackTraces = false := (show e.platform.stackTraces = l.stackTraces by rw [X.admits.platform]).trans hl
  have Y := vx_rebase X (R' := { frames := R.frames, locals := R.locals, cells := 1, slots := 6 }) (Nat.le_refl _) (Nat.le_refl _) hRcells hRslots
  obtain ⟨s', hA⟩ : ∃ z, z = (T.setVm s.vm).setFrames (.invoking m args :: below) := ⟨_, rfl⟩
  rw [← hA] at Y
  have hvm : s'.vm = s.vm := by rw [hA]; rfl
  have hhp : s'.heap = H := by rw [hA]; exact hT
  have hW0 : s.WarmedH s'.vm := by rw [hvm]; exact State.WarmedH.refl s
  have hat' : ∀ w ∈ vx_atS own ic cls names, w.before args s' = true := fun w hw => vx_ot_at hW0 hvm.symm (hgood w (List.mem_cons_of_mem _ (List.mem_cons_of_mem _ hw))) (hat w hw)
  have hk' : (Cond.classLink own ik cls).before args s' = true := vx_ot_at hW0 hvm.symm (hgood _ List.mem_cons_self) hk
  have hini' : (Cond.initialized cls).before args s' = true := vx_ot_at hW0 hvm.symm (hgood _ (List.mem_cons_of_mem _ List.mem_cons_self)) hini
  have hU' : vx_Zq Bundle.tN "UNASSIGNED_STACK" Bundle.steD A s' s'.heap := by rw [hhp]; exact vx_Zq.moved hW0.alike (hU.kept hS.2.1)
  have hN' : vx_Zq Bundle.tN "SUPPRESSED_SENTINEL" Bundle.listD A s' s'.heap := by rw [hhp]; exact vx_Zq.moved hW0.alike (hN.kept hS.2.1)
  have h : ∀ w ∈ Bundle.ownAtoms own ic cls names, w.before args s' = true := vx_own hat' (vx_isRefq hU'.1) (vx_isRefq hN'.1) hU'.2.word hN'.2.word
  have hown' : s'.vm.findClass own = some m.cls := by rw [hvm]; exact hown
  have hins : (Cond.instantiable cls 6).before args s' = true := h _ (by simp [Bundle.ownAtoms])
  obtain ⟨vm₁, cX, kX, hfX, hkX, -, -, X₁, st1⟩ := Y.newCold hexec (own := own) (C := cls) (index := ik) (n := 6) hown' hk' hins hini'
    (g := F0 m pc ls rest) rfl (by rw [hb]; exact d0) (Nat.le_refl _) (Nat.le_refl _)
  generalize hT1 : (T.setVm vm₁).pushCell { cls := cX, slots := kX.instanceTypes.map defaultValue, vm := .none } = T1 at X₁ st1
  have hcat : (Value.ref T.heap.size).category = 1 := rfl
  have hcellA : T1.heap[T.heap.size]? = some (freshCell cX kX) := by rw [← hT1]; exact State.heap_pushCell_size _ _
  have d3' : decode c.code (pc + 3) = .ok (.dup, 1) := by rw [hb]; exact d3
  have d4' : decode c.code (pc + 4) = .ok (.ldc is, 2) := by rw [hb]; exact d4
  have hstr' : vk_R own is text sa s' := vk_R.warm hW0 hstr
  obtain ⟨U, hsteps, hrun, hend, hW, hsame, ce, hce, hO⟩ := X₁.ctorThrowS hexec htr (own := own) (cls := cls) (names := names) (ic := ic) hown' hcls hnames h (fun x hx => nomatch hx) hfX hkX hcellA (by rw [hhp, hT]; exact Nat.le_refl _) (msg := .ref sa) rfl
    (g := { method := m, pc := pc + 6, locals := ls, stack := .ref sa :: .ref T.heap.size :: .ref T.heap.size :: rest, locked := none }) rfl hsize rfl rfl (rest := rest) rfl
    (by rw [hb]; exact d6) (by rw [hb]; exact d9) hout hRframes (by simp only [List.map_cons, List.sum_cons, hcat]; omega) hlocks
  obtain ⟨f1, f2⟩ := vx_frame hsame
  rw [hhp] at f1 f2
  have hWs : s.WarmedH U.vm := State.WarmedH.trans hW0 hW
  have hcl : s.vm.findClass cls = some ce.cls := by
    have h9 := hO.cls
    rw [hvm] at h9
    exact h9
  have hall : s.sameButNew ({ U with vm := s.vm } : State) locs mc ms := by
    subst hA
    obtain ⟨e1, e2⟩ := hsame
    rw [State.setFrames_setFrames] at e1
    have h2 : (T.setVm s.vm).sameButNew ({ U with vm := s.vm } : State) [] (0 + 1) (0 + 6) := ⟨e1, e2⟩
    have h3 := X.same.trans h2
    rw [List.append_nil] at h3
    exact h3.mono hc hs
  refine ⟨U, ?_, .threw T.heap.size, hrun, hend, Or.inr ⟨T.heap.size, rfl, cls, ce, locs, hx U hWs.alike f1 (fun q hq => f2 q hq (fun z hz => nomatch hz)), hce, hO.vm, hcl, hWs, hall, hf⟩⟩
  refine st1 _ ?_
  show Steps p.tables e below (T1.setTop { method := m, pc := pc + 3, locals := ls, stack := .ref T.heap.size :: rest, locked := none }) _
  jvm_step X₁.here [X₁.here.top, hexec, d3', Value.category]
  exact X₁.ldcString hexec (own := own) (text := text) (index := is) (a := sa) hown' hstr'.1 hstr'.2
    (g := { method := m, pc := pc + 4, locals := ls, stack := .ref T.heap.size :: .ref T.heap.size :: rest, locked := none }) rfl d4' _ hsteps
/-- 'throw new E("text")', the text by a wide index -/
theorem vx_throwSW {cc : ByteArray} {pc : Nat} (hexec : p.tables.exec = Jvm.exec) (hb : c.code = cc) (hl : l.stackTraces = false) {own cls text : String} {names : List String} {ik is ic mc ms sa : Nat} {A : Nat → Prop}
    (hown : s.vm.findClass own = some m.cls) (hcls : Bundle.fit cls = true) (hnames : ∀ n ∈ names, Bundle.fit n = true)
    (hk : (Cond.classLink own ik cls).before args s = true) (hini : (Cond.initialized cls).before args s = true) (hstr : vk_R own is text sa s) (hat : ∀ w ∈ vx_atS own ic cls names, w.before args s = true)
    (hgood : ∀ w ∈ Cond.classLink own ik cls :: Cond.initialized cls :: vx_atS own ic cls names, vx_ot w = true)
    (hU : vx_Zq Bundle.tN "UNASSIGNED_STACK" Bundle.steD A s s.heap) (hN : vx_Zq Bundle.tN "SUPPRESSED_SENTINEL" Bundle.listD A s s.heap) (hS : va_S A s.heap H locs) (hsize : ls.size = c.maxLocals)
    (d0 : decode cc pc = .ok (.new ik, 3)) (d3 : decode cc (pc + 3) = .ok (.dup, 1)) (d4 : decode cc (pc + 4) = .ok (.ldc_w is, 3)) (d7 : decode cc (pc + 7) = .ok (.invokespecial ic, 3)) (d10 : decode cc (pc + 10) = .ok (.athrow, 1))
    (hout : ∀ x ∈ c.exceptionTable.toList, covers x (pc + 10) = false)
    (hRframes : names.length + 3 < R.frames) (hRlocals : (rest.map fun v => v.category).sum + (13 * (names.length + 1) + 43) ≤ R.locals) (hRcells : cells + 1 ≤ R.cells) (hRslots : slots + 6 ≤ R.slots) (hlocks : meth.locks = false)
    (hx : ∀ t : State, s.vm.Alike t.vm → H.size ≤ t.heap.size → (∀ q : Nat, q < H.size → t.heap[q]? = H[q]?) → XC cls s t)
    (hf : ∀ z ∈ locs, free z.base) (hc : cells + 1 ≤ mc) (hs : slots + 6 ≤ ms) :
    W p l e R s m args below meth c H locs cells slots (vx_MQ below Qc XC args s mc ms free) (F0 m pc ls rest) := by
  intro T hT X
  have htr : e.platform.stackTraces = false := (show e.platform.stackTraces = l.stackTraces by rw [X.admits.platform]).trans hl
  have Y := vx_rebase X (R' := { frames := R.frames, locals := R.locals, cells := 1, slots := 6 }) (Nat.le_refl _) (Nat.le_refl _) hRcells hRslots
  obtain ⟨s', hA⟩ : ∃ z, z = (T.setVm s.vm).setFrames (.invoking m args :: below) := ⟨_, rfl⟩
  rw [← hA] at Y
  have hvm : s'.vm = s.vm := by rw [hA]; rfl
  have hhp : s'.heap = H := by rw [hA]; exact hT
  have hW0 : s.WarmedH s'.vm := by rw [hvm]; exact State.WarmedH.refl s
  have hat' : ∀ w ∈ vx_atS own ic cls names, w.before args s' = true := fun w hw => vx_ot_at hW0 hvm.symm (hgood w (List.mem_cons_of_mem _ (List.mem_cons_of_mem _ hw))) (hat w hw)
  have hk' : (Cond.classLink own ik cls).before args s' = true := vx_ot_at hW0 hvm.symm (hgood _ List.mem_cons_self) hk
  have hini' : (Cond.initialized cls).before args s' = true := vx_ot_at hW0 hvm.symm (hgood _ (List.mem_cons_of_mem _ List.mem_cons_self)) hini
  have hU' : vx_Zq Bundle.tN "UNASSIGNED_STACK" Bundle.steD A s' s'.heap := by rw [hhp]; exact vx_Zq.moved hW0.alike (hU.kept hS.2.1)
  have hN' : vx_Zq Bundle.tN "SUPPRESSED_SENTINEL" Bundle.listD A s' s'.heap := by rw [hhp]; exact vx_Zq.moved hW0.alike (hN.kept hS.2.1)
  have h : ∀ w ∈ Bundle.ownAtoms own ic cls names, w.before args s' = true := vx_own hat' (vx_isRefq hU'.1) (vx_isRefq hN'.1) hU'.2.word hN'.2.word
  have hown' : s'.vm.findClass own = some m.cls := by rw [hvm]; exact hown
  have hins : (Cond.instantiable cls 6).before args s' = true := h _ (by simp [Bundle.ownAtoms])
  obtain ⟨vm₁, cX, kX, hfX, hkX, -, -, X₁, st1⟩ := Y.newCold hexec (own := own) (C := cls) (index := ik) (n := 6) hown' hk' hins hini'
    (g := F0 m pc ls rest) rfl (by rw [hb]; exact d0) (Nat.le_refl _) (Nat.le_refl _)
  generalize hT1 : (T.setVm vm₁).pushCell { cls := cX, slots := kX.instanceTypes.map defaultValue, vm := .none } = T1 at X₁ st1
  have hcat : (Value.ref T.heap.size).category = 1 := rfl
  have hcellA : T1.heap[T.heap.size]? = some (freshCell cX kX) := by rw [← hT1]; exact State.heap_pushCell_size _ _
  have d3' : decode c.code (pc + 3) = .ok (.dup, 1) := by rw [hb]; exact d3
  have d4' : decode c.code (pc + 4) = .ok (.ldc_w is, 3) := by rw [hb]; exact d4
  have hstr' : vk_R own is text sa s' := vk_R.warm hW0 hstr
  obtain ⟨U, hsteps, hrun, hend, hW, hsame, ce, hce, hO⟩ := X₁.ctorThrowS hexec htr (own := own) (cls := cls) (names := names) (ic := ic) hown' hcls hnames h (fun x hx => nomatch hx) hfX hkX hcellA (by rw [hhp, hT]; exact Nat.le_refl _) (msg := .ref sa) rfl
    (g := { method := m, pc := pc + 7, locals := ls, stack := .ref sa :: .ref T.heap.size :: .ref T.heap.size :: rest, locked := none }) rfl hsize rfl rfl (rest := rest) rfl
    (by rw [hb]; exact d7) (by rw [hb]; exact d10) hout hRframes (by simp only [List.map_cons, List.sum_cons, hcat]; omega) hlocks
  obtain ⟨f1, f2⟩ := vx_frame hsame
  rw [hhp] at f1 f2
  have hWs : s.WarmedH U.vm := State.WarmedH.trans hW0 hW
  have hcl : s.vm.findClass cls = some ce.cls := by
    have h9 := hO.cls
    rw [hvm] at h9
    exact h9
  have hall : s.sameButNew ({ U with vm := s.vm } : State) locs mc ms := by
    subst hA
    obtain ⟨e1, e2⟩ := hsame
    rw [State.setFrames_setFrames] at e1
    have h2 : (T.setVm s.vm).sameButNew ({ U with vm := s.vm } : State) [] (0 + 1) (0 + 6) := ⟨e1, e2⟩
    have h3 := X.same.trans h2
    rw [List.append_nil] at h3
    exact h3.mono hc hs
  refine ⟨U, ?_, .threw T.heap.size, hrun, hend, Or.inr ⟨T.heap.size, rfl, cls, ce, locs, hx U hWs.alike f1 (fun q hq => f2 q hq (fun z hz => nomatch hz)), hce, hO.vm, hcl, hWs, hall, hf⟩⟩
  refine st1 _ ?_
  show Steps p.tables e below (T1.setTop { method := m, pc := pc + 3, locals := ls, stack := .ref T.heap.size :: rest, locked := none }) _
  jvm_step X₁.here [X₁.here.top, hexec, d3', Value.category]
  exact X₁.ldcStringW hexec (own := own) (text := text) (index := is) (a := sa) hown' hstr'.1 hstr'.2
    (g := { method := m, pc := pc + 4, locals := ls, stack := .ref T.heap.size :: .ref T.heap.size :: rest, locked := none }) rfl d4' _ hsteps
end Ends
section Bodies
variable {l : Launch}
theorem vx_ofW {y : MethodName} {ws ws' : List Cond} {rm : Room} {Pc : Array Value → State → Prop} {Qc : Array Value → State → Outcome → State → Prop} {XC : String → State → State → Prop} {mc ms : Nat} {free : Addr → Prop} {cc : ByteArray} {maxL : Nat} {ret : Option FieldType}
    (hy : plainName y.cls = true) (hw : ws = Cond.code y cc maxL ret :: ws')
    (body : ∀ p e s m args below meth c s₁, BodyLoose p l y (headSpec ws rm) cc maxL ret e s m args below meth c s₁ → c.maxLocals = maxL → (∀ x ∈ c.exceptionTable.toList, False) → Pc args s →
      W p l e (headSpec ws rm).room s m args below meth c s.heap [] 0 0 (vx_MQ below Qc XC args s mc ms free) (entryFrame m args maxL)) : vx_Met l y ws rm Pc Qc XC mc ms free := by
  refine MetFree.of_bodyS (code := cc) (maxLocals := maxL) (ret := ret) hy ?_ ?_
  · intro args s m h hn
    obtain ⟨meth, c, h1, h2, h3, h4, h5, h6, -, -⟩ := Cond.code_spec hn (atoms_spec (ws := ws) h _ (by rw [hw]; exact List.mem_cons_self))
    exact ⟨meth, c, h1, h2, h3, h4, h5, h6⟩
  · intro p e s m args below meth c s₁ B hml hP _
    have hh0 : s₁.heap = s.heap := by rw [B.state]; rfl
    have ht : ∀ x ∈ c.exceptionTable.toList, False := by
      obtain ⟨meth9, c9, h1, h2, -, -, -, -, h7, -⟩ := Cond.code_spec B.named (atoms_spec (ws := ws) B.pre _ (by rw [hw]; exact List.mem_cons_self))
      cases Option.some.inj (h1.symm.trans B.method)
      cases Option.some.inj (h2.symm.trans (Stand.of_body B).code)
      intro x hx
      rw [Array.isEmpty_iff.mp h7] at hx
      cases hx
    obtain ⟨t, a1, o, b1, b2, b3⟩ := body p e s m args below meth c s₁ B hml ht hP s₁ hh0 (Stand.of_body B)
    exact ⟨t, o, a1, b1, b2, b3⟩
/-- the table of a body with handlers -/
theorem vx_table {p : Program} {x y : MethodName} {S : Spec} {cc bytes : ByteArray} {maxL maxL' : Nat} {ret ret' : Option FieldType} {e : Env} {s s₁ : State} {m : MethodId} {args : Array Value} {below : List Frame} {meth : Method} {c : Code} {hh : List (Nat × Nat × Nat × Nat)}
    (B : BodyLoose p l y S cc maxL ret e s m args below meth c s₁) (h : (Cond.codeWith y bytes maxL' ret' hh).before args s = true) : c.exceptionTable.toList = tableOf hh := by
  obtain ⟨m9, meth9, c9, hn9, h1, h2, -, -, h6, -⟩ := Cond.codeWith_spec h
  cases Option.some.inj (hn9.symm.trans B.named)
  cases Option.some.inj (h1.symm.trans B.method)
  cases Option.some.inj (h2.symm.trans (Stand.of_body B).code)
  rw [← h6, table_eq]
end Bodies
end VXA
/-! ===== END ===== -/
/-! ===== BEGIN a static call of a method with an exception table ===== -/
section VXS
variable {p : Program} {l : Launch} {e : Env} {R : Room} {s : State} {m : MethodId} {args : Array Value} {below : List Frame} {meth : Method} {c : Code} {T : State} {H : Heap} {locs : List Loc} {cells slots : Nat}
abbrev vx_CSW (R : Room) (s : State) (args : Array Value) (own : String) (index : Nat) (y : MethodName) (bytes : ByteArray) (maxL : Nat) (ret : Option FieldType) (hh : List (Nat × Nat × Nat × Nat)) (ws : List Cond) (rm : Room) (mc ms n : Nat) : Prop :=
  (rm.cells = mc ∧ rm.slots = ms ∧ rm.frames + 1 ≤ R.frames ∧ 8 + (maxL + 11) + rm.locals ≤ R.locals ∧ (∀ w ∈ ws, ∀ (a' : Array Value) (U : State), s.WarmedH U.vm → w.before a' U = true) ∧ Cond.codeWith y bytes maxL ret hh ∈ ws) ∧
  (Cond.codeWith y bytes maxL ret hh).before args s = true ∧ (Cond.initialized y.cls).before args s = true ∧ (y.cls ≠ "java/lang/invoke/MethodHandle" ∧ y.cls ≠ "java/lang/invoke/VarHandle") ∧
  (∀ sig, parseMethodDescriptor y.desc = some sig → n = sig.parameters.length) ∧ (Cond.methodLink own index y).before args s = true ∧ (Cond.static y).before args s = true
theorem vx_cwSW {own : String} {index maxL mc ms : Nat} {y : MethodName} {bytes : ByteArray} {ret : Option FieldType} {hh : List (Nat × Nat × Nat × Nat)} {Ts ws ws' : List Cond} {rm : Room} (n : Nat) (ht : ∀ w ∈ Ts, w.before args s = true) (hT : GoodIn Ts (va_wsS own index y ws)) (hw : ws = Cond.codeWith y bytes maxL ret hh :: ws') (hrc : rm.cells = mc) (hrs : rm.slots = ms)
    (hd : y.cls ≠ "java/lang/invoke/MethodHandle" ∧ y.cls ≠ "java/lang/invoke/VarHandle" ∧ (parseMethodDescriptor y.desc).map (fun d => d.parameters.length) = some n) (hR : rm.frames + 1 ≤ R.frames ∧ 8 + (maxL + 11) + rm.locals ≤ R.locals) :
    vx_CSW R s args own index y bytes maxL ret hh ws rm mc ms n := by
  have ok : ∀ w ∈ va_wsS own index y ws, w.before args s = true := fun w h => ht w (hT w h).1
  have hG : GoodIn Ts ws := fun w h => hT w (by unfold va_wsS; exact List.mem_append_right _ h)
  have hc : Cond.codeWith y bytes maxL ret hh ∈ ws := by rw [hw]; exact List.mem_cons_self
  refine ⟨⟨hrc, hrs, hR.1, hR.2, pay_in ht hG, hc⟩, ht _ (hG _ hc).1, ok _ (by simp [va_wsS]), ⟨hd.1, hd.2.1⟩, fun sig h => ?_, ok _ (by simp [va_wsS]), ok _ (by simp [va_wsS])⟩
  have h2 := hd.2.2
  rw [h] at h2
  exact (Option.some.inj h2).symm
theorem vx_callSW (X : Stand p l e R s m args below meth c T locs cells slots) (hexec : p.tables.exec = Jvm.exec) {own : String} {index : Nat} {y : MethodName} {bytes : ByteArray} {maxL : Nat} {ret : Option FieldType} {hh : List (Nat × Nat × Nat × Nat)}
    (hown : s.vm.findClass own = some m.cls) (hlink : (Cond.methodLink own index y).before args s = true) (hstat : (Cond.static y).before args s = true) (hinit : (Cond.initialized y.cls).before args s = true)
    (hcode : (Cond.codeWith y bytes maxL ret hh).before args s = true) (hy : y.cls ≠ "java/lang/invoke/MethodHandle" ∧ y.cls ≠ "java/lang/invoke/VarHandle")
    {W9 : Nat} {Pre : Pt → Array Value → Prop} {Post : Pt → Array Value → Option Value → Pt → Prop} (hK : Back l R p e below s args y 3 W9 Pre Post)
    {g : JFrame} (hg : g.method = m) (hsize : g.locals.size = c.maxLocals) {argsL rest : List Value} (hlen : ∀ sig, parseMethodDescriptor y.desc = some sig → argsL.length = sig.parameters.length)
    (hstack : g.stack = argsL.reverse ++ rest) (hW : 2 * g.monitorRoom + (rest.map fun v => v.category).sum ≤ W9) (hdg : decode c.code g.pc = .ok (.invokestatic index, 3))
    (hpre : ∀ vm₁, s.WarmedH vm₁ → Pre ⟨T.setVm vm₁, locs, cells, slots⟩ argsL.toArray) :
    ∃ (v : Option Value) (vm₁ : Vm) (B : Pt), s.WarmedH vm₁ ∧ Stand p l e R s m args below meth c B.U B.locs B.cells B.slots ∧ Post ⟨T.setVm vm₁, locs, cells, slots⟩ argsL.toArray v B ∧
      ∀ target, Steps p.tables e below (B.U.setTop { g with pc := g.pc + 3, stack := v.toList ++ rest }) target → Steps p.tables e below (T.setTop g) target := by
  obtain ⟨mk, methM, cM, hnamed, hmethM, -, -, -, -, -, -, hsigM⟩ := Cond.codeWith_spec hcode
  have hstatic : methM.isStatic = true := Cond.static_spec hnamed hmethM hstat
  obtain ⟨kP, hkP, -⟩ := className_of_methodNamed hnamed
  have hinitP : kP.init = .initialized := Cond.initialized_spec (findClass_of_methodNamed hnamed) hkP hinit
  obtain ⟨vm₁, X₁, hstep₁⟩ := X.invokestatic hexec hown hlink hnamed hmethM hstatic hkP hinitP hy (g := g) hg (argsL := argsL) (rest := rest) (hlen _ hsigM) hstack hdg
  obtain ⟨v, B, X', hpost, hsteps⟩ := hK m meth c ⟨T.setVm vm₁, locs, cells, slots⟩ { g with stack := rest } (.invokestatic index) mk argsL.toArray X₁ hg hsize hdg hW (X₁.named hnamed) (hpre vm₁ X₁.warmed)
  exact ⟨v, vm₁, B, X₁.warmed, X', hpost, fun target h => hstep₁ _ fun acts => by rw [doInvoke_state]; exact hsteps.trans h⟩
theorem vx_runSW {y : MethodName} {bytes cc : ByteArray} {maxL nL mc ms n index : Nat} {ret : Option FieldType} {hh : List (Nat × Nat × Nat × Nat)} {ws : List Cond} {rm : Room} {Pc : Array Value → State → Prop} {Qc : Array Value → State → Outcome → State → Prop} {free : Addr → Prop} {Ts : List Cond} {own : String} {As rest : List Value} {g : JFrame}
    (S : CallFix p m c cc nL s args Ts own) (hM : Met l y ws rm Pc Qc mc ms free) (cw : vx_CSW R s args own index y bytes maxL ret hh ws rm mc ms n) (hp : PreS s H Pc As)
    (hg : g.method = m) (hn : As.length = n) (hsize : g.locals.size = nL) (hstack : g.stack = As.reverse ++ rest) (hW : 2 * g.monitorRoom + (rest.map fun v => v.category).sum ≤ 8) (hdg : decode cc g.pc = .ok (.invokestatic index, 3)) (hf : cells + mc ≤ R.cells ∧ slots + ms ≤ R.slots) :
    va_Run p l e R s m args below meth c H locs cells slots mc ms g rest (Qc As.toArray) (free) := by
  obtain ⟨⟨hrc, hrs, hfr, hlo, hws, hcw⟩, hcode, hini, hy, hlen, hl, hstt⟩ := cw
  have hK : Back l R p e below s args y 3 8 (PreOf R mc ms Pc) (PostOf Qc mc ms free) := va_backW (hh := hh) (bytes := bytes) (maxL := maxL) (ret := ret) hM hp.1 hrc hrs hfr hlo hws hcw (fun a' U hW => word_at hW (Or.inl (by first | rfl | simp [Cond.onTables, Cond.keeps, Cond.steady])) hini)
  obtain ⟨hx, hb, hml, ho, -⟩ := S
  intro T hT X
  obtain ⟨v, vm₁, ⟨U', l2, c2, s2⟩, hW₁, X', ⟨g', mk, t, L, e1, e2, hq, h1, hL, h2, h3⟩, st⟩ := vx_callSW X hx (hh := hh) (bytes := bytes) (maxL := maxL) (ret := ret) ho hl hstt hini hcode hy hK hg (hsize.trans hml.symm) (argsL := As) (rest := rest) (fun sig h => hn.trans (hlen sig h)) hstack hW (by rw [hb]; exact hdg)
    (fun vm₁ hW₁ => ⟨hf.1, hf.2, hp.2 (T.setVm vm₁) hT hW₁⟩)
  dsimp only [Pt.U, Pt.locs, Pt.cells, Pt.slots] at X' e1 e2 h1 h2 h3 st
  subst h1; subst h2; subst h3
  exact ⟨v, (T.setVm vm₁).calling g' mk As.toArray, t, U', L, hT, X', hL, e1, e2, hq, st⟩
/-- a thing of a world lies in the heap -/
theorem vx_lt {D : va_G} {cl : List vw_C} {ws : va_W} {H1 : Heap} (h : va_P D cl ws H1) {k : Nat} {q : Nat × va_E} (hk : ws[k]? = some q) : q.1 < H1.size := (h k q hk).lt
end VXS
/-! ===== END ===== -/
/-! ===== BEGIN methods with a table of their own: called by a name, returning or throwing ===== -/
section VXH
/-! vx_backW, vx_callVX, vx_callSX, vx_callVW, vx_runVW, vx_runVX, vx_runSX, vx_ofWH follow the same proofs as their sisters above (Free/Laws.lean, Shelf42/LK1.lean); vx_outP calls Shelf42/NT130.lean (outThrough). -/
section
variable {l : Launch} {R : Room} {p : Program} {e : Env} {below : List Frame} {s : State} {sargs : Array Value} {y : MethodName} {len W9 : Nat}
theorem vx_backW {ws : List Cond} {rm : Room} {Pc : Array Value → State → Prop} {Qc : Array Value → State → Outcome → State → Prop} {XC : String → State → State → Prop} {mc ms : Nat} {free : Addr → Prop} {bytes : ByteArray} {maxL : Nat} {ret : Option FieldType} {hh : List (Nat × Nat × Nat × Nat)}
    (hM : vx_Met l y ws rm Pc Qc XC mc ms free) (hblind : FrameBlind Pc) (hrc : rm.cells = mc) (hrs : rm.slots = ms)
    (hframes : rm.frames + 1 ≤ R.frames) (hlocals : W9 + (maxL + 11) + rm.locals ≤ R.locals)
    (hws : ∀ w ∈ ws, ∀ a' U, s.WarmedH U.vm → w.before a' U = true) (hcode : Cond.codeWith y bytes maxL ret hh ∈ ws) (hinit : ∀ a' U, s.WarmedH U.vm → (Cond.initialized y.cls).before a' U = true) :
    vx_Back l R p e below s sargs y len W9 (PreOf R mc ms Pc) (PostOf Qc mc ms free) (vx_Post XC mc ms free) := by
  intro m meth c A g ig mk a X hg hsize hdg hW hn hp
  have h1 : (headSpec ws rm).pre.before a A.U = true := atoms_intro fun w hw => hws w hw _ _ X.warmed
  have h2 : (Cond.codeWith y bytes maxL ret hh).before a A.U = true := hws _ hcode _ _ X.warmed
  have h3 : (Cond.initialized y.cls).before a A.U = true := hinit _ _ X.warmed
  have h4 : A.cells + (headSpec ws rm).room.cells ≤ R.cells := by rw [show (headSpec ws rm).room.cells = mc from hrc]; exact hp.1
  have h5 : A.slots + (headSpec ws rm).room.slots ≤ R.slots := by rw [show (headSpec ws rm).room.slots = ms from hrs]; exact hp.2.1
  have hPc : Pc a (A.U.calling g mk a) := hblind _ _ _ _ hp.2.2
  obtain ⟨U, Ls, c0, s0⟩ := A
  dsimp only [Pt.U, Pt.locs, Pt.cells, Pt.slots] at h1 h2 h3 h4 h5 X hn hPc ⊢
  obtain ⟨m9, methY, cY, hn9, hmY, hcY, -, hlY, -⟩ := Cond.codeWith_spec h2
  cases Option.some.inj (hn9.symm.trans hn)
  obtain ⟨kY, hkY, -⟩ := className_of_methodNamed hn
  have hinitY : kY.init = .initialized := Cond.initialized_spec (findClass_of_methodNamed hn) hkY h3
  have h : At U g.method c below := by rw [hg]; exact X.here
  have hlocals9 : W9 + (maxL + 11) + (headSpec ws rm).room.locals ≤ R.locals := hlocals
  have happ : (headSpec ws rm).appliesLoose y e.platform (U.calling g mk a) = true :=
    Spec.appliesLoose_calling (g := g) h hdg hn hkY hinitY
      (X.room_calling (g := g) (R' := (headSpec ws rm).room) hsize hmY hcY hframes (by rw [hlY]; omega) h4 h5) h1
  obtain ⟨mid, hmid⟩ := h.above
  have hfr : (U.setTop g).frames = (.java g :: mid) ++ below := by rw [State.frames_setTop' g h.top, hmid]; rfl
  obtain ⟨o, s₂, hsteps, -, hend, hq⟩ := Steps.callFree hM p X.admits X.cas X.clock (acts := []) hfr happ hPc trivial
  have hq' : vx_Q Qc XC mc ms free a (U.calling g mk a) o s₂ := hq
  rw [State.frames_setTop' g h.top] at hend
  obtain ⟨g₀, hg0⟩ := Option.isSome_iff_exists.mp h.top
  obtain ⟨r, hr⟩ := State.topJava?_eq_some.mp hg0
  have hr' : (({ U with heap := s₂.heap, slotsUsed := s₂.slotsUsed } : State).setVm s₂.vm).frames = .java g₀ :: r := hr
  rcases hq' with ⟨hqc, L, hfe, hL⟩ | ⟨q, rfl, E, ce, L, hx, hce, hcv, hcl, hW₂, hsm, hL⟩
  · obtain ⟨⟨v, rfl⟩, hW₂, e2, q2, q3, q4, q5, q6⟩ := id hfe
    have e3 : s₂ = ({ (U.calling g mk a).setFrames s₂.frames with heap := s₂.heap, slotsUsed := s₂.slotsUsed } : State).setVm s₂.vm := by
      have : s₂ = ({ s₂ with vm := (U.calling g mk a).vm } : State).setVm s₂.vm := rfl
      rw [e2] at this
      exact this
    obtain ⟨c₂, i₂, len₂, hc₂, hd₂, hf₂⟩ := hend
    have hW' : U.WarmedH s₂.vm := hW₂
    have hcc : c₂ = c := by
      have h1 : s₂.code? g.method = U.code? g.method := by
        rw [State.code?_eq, State.code?_eq, hW'.alike.method?]
      exact Option.some.inj (hc₂.symm.trans (h1.trans h.code))
    subst hcc
    have hlen : len₂ = len := by rw [hdg] at hd₂; cases hd₂; rfl
    subst hlen
    have hs₂ : s₂ = (({ U with heap := s₂.heap, slotsUsed := s₂.slotsUsed } : State).setVm s₂.vm).setTop { g with pc := g.pc + len₂, stack := v.toList ++ g.stack } := by
      refine e3.trans ?_
      rw [hf₂, State.calling_eq h.top, State.setFrames_setFrames, State.setTop_of_frames _ hr', hr]
      rfl
    have hsame : U.sameButNew ({ U with heap := s₂.heap, slotsUsed := s₂.slotsUsed } : State) L mc ms := by
      refine ⟨?_, q2, q3, q4, q5, q6⟩
      obtain ⟨t, ht, -⟩ := State.frames_cons hr
      show ({ U with heap := s₂.heap, slotsUsed := s₂.slotsUsed } : State) = { U.setFrames U.frames with heap := s₂.heap, slotsUsed := s₂.slotsUsed }
      rw [State.setFrames_self ht]
    subst hg
    refine Or.inl ⟨v, ⟨(({ U with heap := s₂.heap, slotsUsed := s₂.slotsUsed } : State).setVm s₂.vm), Ls ++ L, c0 + mc, s0 + ms⟩,
      ⟨X.admits, X.cas, X.clock, X.frames, X.room, X.hears, X.method, X.code, (X.here.setHeapUsed s₂.heap s₂.slotsUsed).setVm hW'.alike, X.tail, State.WarmedH.trans X.warmed hW', X.limits, X.bytes, X.same.trans (hsame.setVm s.vm)⟩,
      ⟨g, mk, s₂, L, rfl, rfl, hqc, rfl, hL, rfl, rfl⟩, ?_⟩
    show Steps p.tables e below _ ((({ U with heap := s₂.heap, slotsUsed := s₂.slotsUsed } : State).setVm s₂.vm).setTop { g with pc := g.pc + len₂, stack := v.toList ++ g.stack })
    rw [← hs₂]
    exact hsteps
  · obtain ⟨e2, q2, q3, q4, q5, q6⟩ := id hsm
    have e3 : s₂ = ({ (U.calling g mk a).setFrames s₂.frames with heap := s₂.heap, slotsUsed := s₂.slotsUsed } : State).setVm s₂.vm := by
      have : s₂ = ({ s₂ with vm := (U.calling g mk a).vm } : State).setVm s₂.vm := rfl
      rw [e2] at this
      exact this
    have hf₂ : s₂.frames = .throwing q :: .java g :: U.frames.tail := hend
    have hW' : U.WarmedH s₂.vm := hW₂
    have hs₂ : s₂ = ((({ U with heap := s₂.heap, slotsUsed := s₂.slotsUsed } : State).setVm s₂.vm).setTop g).pushFrame (.throwing q) := by
      refine e3.trans ?_
      rw [hf₂, State.calling_eq h.top, State.setFrames_setFrames, State.pushFrame, State.frames_setTop _ hr', State.setTop_of_frames _ hr', State.setFrames_setFrames, hr]
      rfl
    have hsame : U.sameButNew ({ U with heap := s₂.heap, slotsUsed := s₂.slotsUsed } : State) L mc ms := by
      refine ⟨?_, q2, q3, q4, q5, q6⟩
      obtain ⟨t, ht, -⟩ := State.frames_cons hr
      show ({ U with heap := s₂.heap, slotsUsed := s₂.slotsUsed } : State) = { U.setFrames U.frames with heap := s₂.heap, slotsUsed := s₂.slotsUsed }
      rw [State.setFrames_self ht]
    subst hg
    refine Or.inr ⟨q, ⟨(({ U with heap := s₂.heap, slotsUsed := s₂.slotsUsed } : State).setVm s₂.vm), Ls ++ L, c0 + mc, s0 + ms⟩,
      ⟨X.admits, X.cas, X.clock, X.frames, X.room, X.hears, X.method, X.code, (X.here.setHeapUsed s₂.heap s₂.slotsUsed).setVm hW'.alike, X.tail, State.WarmedH.trans X.warmed hW', X.limits, X.bytes, X.same.trans (hsame.setVm s.vm)⟩,
      ⟨g, mk, s₂, L, E, ce, rfl, rfl, hx, hce, hcv, hcl, rfl, hL, rfl, rfl⟩, ?_⟩
    show Steps p.tables e below _ (((({ U with heap := s₂.heap, slotsUsed := s₂.slotsUsed } : State).setVm s₂.vm).setTop g).pushFrame (.throwing q))
    rw [← hs₂]
    exact hsteps
end
variable {p : Program} {l : Launch} {e : Env} {R : Room} {s : State} {m : MethodId} {args : Array Value} {below : List Frame} {meth : Method} {c : Code} {T : State} {H : Heap} {locs : List Loc} {cells slots : Nat}
theorem vx_callVX (X : Stand p l e R s m args below meth c T locs cells slots) (hexec : p.tables.exec = Jvm.exec) {own C : String} {index : Nat} {y : MethodName} {bytes : ByteArray} {maxL : Nat} {ret : Option FieldType} {hh : List (Nat × Nat × Nat × Nat)}
    (hown : s.vm.findClass own = some m.cls) (hlink : (Cond.methodLink own index y).before args s = true) (hinst : (Cond.instanceMethod y).before args s = true) (hsel : (Cond.selects C y y).before args s = true)
    (hcode : (Cond.codeWith y bytes maxL ret hh).before args s = true) (hy : y.cls ≠ "java/lang/invoke/MethodHandle" ∧ y.cls ≠ "java/lang/invoke/VarHandle")
    {W9 : Nat} {Pre : Pt → Array Value → Prop} {Post : Pt → Array Value → Option Value → Pt → Prop} {PostX : Pt → Array Value → Addr → Pt → Prop} (hK : vx_Back l R p e below s args y 3 W9 Pre Post PostX)
    {b : Addr} {cellB : Cell} (hcell : T.heap[b]? = some cellB) (hobj : cellB.vm.isStatics = false) (hcls : s.vm.findClass C = some cellB.cls)
    {g : JFrame} (hg : g.method = m) (hsize : g.locals.size = c.maxLocals) {argsL rest : List Value} (hlen : ∀ sig, parseMethodDescriptor y.desc = some sig → argsL.length = sig.parameters.length)
    (hstack : g.stack = argsL.reverse ++ .ref b :: rest) (hW : 2 * g.monitorRoom + (rest.map fun v => v.category).sum ≤ W9) (hdg : decode c.code g.pc = .ok (.invokevirtual index, 3))
    (hpre : ∀ vm₁, s.WarmedH vm₁ → Pre ⟨T.setVm vm₁, locs, cells, slots⟩ (Value.ref b :: argsL).toArray) :
    (∃ (v : Option Value) (vm₁ : Vm) (B : Pt), s.WarmedH vm₁ ∧ Stand p l e R s m args below meth c B.U B.locs B.cells B.slots ∧ Post ⟨T.setVm vm₁, locs, cells, slots⟩ (Value.ref b :: argsL).toArray v B ∧
      ∀ target, Steps p.tables e below (B.U.setTop { g with pc := g.pc + 3, stack := v.toList ++ rest }) target → Steps p.tables e below (T.setTop g) target) ∨
    (∃ (q : Addr) (vm₁ : Vm) (B : Pt), s.WarmedH vm₁ ∧ Stand p l e R s m args below meth c B.U B.locs B.cells B.slots ∧ PostX ⟨T.setVm vm₁, locs, cells, slots⟩ (Value.ref b :: argsL).toArray q B ∧
      Steps p.tables e below (T.setTop g) ((B.U.setTop { g with stack := rest }).pushFrame (.throwing q))) := by
  obtain ⟨mk, methM, hnamed, hmethM, hstM, habM⟩ := Cond.instanceMethod_spec hinst
  obtain ⟨m8, methM', cM, hn8, hmethM', -, -, -, -, -, -, hsigM⟩ := Cond.codeWith_spec hcode
  cases Option.some.inj (hn8.symm.trans hnamed)
  cases hmethM.symm.trans hmethM'
  obtain ⟨c2, r2, m2, q1, q2, q3, q4, kP, hkP, hkPi⟩ := Cond.selects_spec hsel
  cases hcls.symm.trans q1
  cases (State.methodFound?_of_named hnamed hy).symm.trans q2
  cases hnamed.symm.trans q3
  have hselP : selectMethod e.platform s.vm cellB.cls mk = .method mk := by rw [Launch.admits_selectMethod X.admits]; exact q4
  obtain ⟨vm₁, X₁, hstep₁⟩ := X.invokevirtual hexec hown hlink hnamed hmethM hstM hkP hkPi hy (a := b) (cell := cellB) hcell
    (fun z h => by rw [h] at hobj; cases hobj) hselP hmethM habM hkP hkPi (g := g) hg (argsL := argsL) (rest := rest) (hlen _ hsigM) hstack hdg
  rcases hK m meth c ⟨T.setVm vm₁, locs, cells, slots⟩ { g with stack := rest } (.invokevirtual index) mk (Value.ref b :: argsL).toArray X₁ hg hsize hdg hW (X₁.named hnamed) (hpre vm₁ X₁.warmed) with ⟨v, B, X', hpost, hsteps⟩ | ⟨q, B, X', hpost, hsteps⟩
  · exact Or.inl ⟨v, vm₁, B, X₁.warmed, X', hpost, fun target h => hstep₁ _ fun acts => by rw [doInvoke_state]; exact hsteps.trans h⟩
  · exact Or.inr ⟨q, vm₁, B, X₁.warmed, X', hpost, hstep₁ _ fun acts => by rw [doInvoke_state]; exact hsteps⟩
theorem vx_callSX (X : Stand p l e R s m args below meth c T locs cells slots) (hexec : p.tables.exec = Jvm.exec) {own : String} {index : Nat} {y : MethodName} {bytes : ByteArray} {maxL : Nat} {ret : Option FieldType} {hh : List (Nat × Nat × Nat × Nat)}
    (hown : s.vm.findClass own = some m.cls) (hlink : (Cond.methodLink own index y).before args s = true) (hstat : (Cond.static y).before args s = true) (hinit : (Cond.initialized y.cls).before args s = true)
    (hcode : (Cond.codeWith y bytes maxL ret hh).before args s = true) (hy : y.cls ≠ "java/lang/invoke/MethodHandle" ∧ y.cls ≠ "java/lang/invoke/VarHandle")
    {W9 : Nat} {Pre : Pt → Array Value → Prop} {Post : Pt → Array Value → Option Value → Pt → Prop} {PostX : Pt → Array Value → Addr → Pt → Prop} (hK : vx_Back l R p e below s args y 3 W9 Pre Post PostX)
    {g : JFrame} (hg : g.method = m) (hsize : g.locals.size = c.maxLocals) {argsL rest : List Value} (hlen : ∀ sig, parseMethodDescriptor y.desc = some sig → argsL.length = sig.parameters.length)
    (hstack : g.stack = argsL.reverse ++ rest) (hW : 2 * g.monitorRoom + (rest.map fun v => v.category).sum ≤ W9) (hdg : decode c.code g.pc = .ok (.invokestatic index, 3))
    (hpre : ∀ vm₁, s.WarmedH vm₁ → Pre ⟨T.setVm vm₁, locs, cells, slots⟩ argsL.toArray) :
    (∃ (v : Option Value) (vm₁ : Vm) (B : Pt), s.WarmedH vm₁ ∧ Stand p l e R s m args below meth c B.U B.locs B.cells B.slots ∧ Post ⟨T.setVm vm₁, locs, cells, slots⟩ argsL.toArray v B ∧
      ∀ target, Steps p.tables e below (B.U.setTop { g with pc := g.pc + 3, stack := v.toList ++ rest }) target → Steps p.tables e below (T.setTop g) target) ∨
    (∃ (q : Addr) (vm₁ : Vm) (B : Pt), s.WarmedH vm₁ ∧ Stand p l e R s m args below meth c B.U B.locs B.cells B.slots ∧ PostX ⟨T.setVm vm₁, locs, cells, slots⟩ argsL.toArray q B ∧
      Steps p.tables e below (T.setTop g) ((B.U.setTop { g with stack := rest }).pushFrame (.throwing q))) := by
  obtain ⟨mk, methM, cM, hnamed, hmethM, -, -, -, -, -, -, hsigM⟩ := Cond.codeWith_spec hcode
  have hstatic : methM.isStatic = true := Cond.static_spec hnamed hmethM hstat
  obtain ⟨kP, hkP, -⟩ := className_of_methodNamed hnamed
  have hinitP : kP.init = .initialized := Cond.initialized_spec (findClass_of_methodNamed hnamed) hkP hinit
  obtain ⟨vm₁, X₁, hstep₁⟩ := X.invokestatic hexec hown hlink hnamed hmethM hstatic hkP hinitP hy (g := g) hg (argsL := argsL) (rest := rest) (hlen _ hsigM) hstack hdg
  rcases hK m meth c ⟨T.setVm vm₁, locs, cells, slots⟩ { g with stack := rest } (.invokestatic index) mk argsL.toArray X₁ hg hsize hdg hW (X₁.named hnamed) (hpre vm₁ X₁.warmed) with ⟨v, B, X', hpost, hsteps⟩ | ⟨q, B, X', hpost, hsteps⟩
  · exact Or.inl ⟨v, vm₁, B, X₁.warmed, X', hpost, fun target h => hstep₁ _ fun acts => by rw [doInvoke_state]; exact hsteps.trans h⟩
  · exact Or.inr ⟨q, vm₁, B, X₁.warmed, X', hpost, hstep₁ _ fun acts => by rw [doInvoke_state]; exact hsteps⟩
theorem vx_callVW (X : Stand p l e R s m args below meth c T locs cells slots) (hexec : p.tables.exec = Jvm.exec) {own C : String} {index : Nat} {y : MethodName} {bytes : ByteArray} {maxL : Nat} {ret : Option FieldType} {hh : List (Nat × Nat × Nat × Nat)}
    (hown : s.vm.findClass own = some m.cls) (hlink : (Cond.methodLink own index y).before args s = true) (hinst : (Cond.instanceMethod y).before args s = true) (hsel : (Cond.selects C y y).before args s = true)
    (hcode : (Cond.codeWith y bytes maxL ret hh).before args s = true) (hy : y.cls ≠ "java/lang/invoke/MethodHandle" ∧ y.cls ≠ "java/lang/invoke/VarHandle")
    {W9 : Nat} {Pre : Pt → Array Value → Prop} {Post : Pt → Array Value → Option Value → Pt → Prop} (hK : Back l R p e below s args y 3 W9 Pre Post)
    {b : Addr} {cellB : Cell} (hcell : T.heap[b]? = some cellB) (hobj : cellB.vm.isStatics = false) (hcls : s.vm.findClass C = some cellB.cls)
    {g : JFrame} (hg : g.method = m) (hsize : g.locals.size = c.maxLocals) {argsL rest : List Value} (hlen : ∀ sig, parseMethodDescriptor y.desc = some sig → argsL.length = sig.parameters.length)
    (hstack : g.stack = argsL.reverse ++ .ref b :: rest) (hW : 2 * g.monitorRoom + (rest.map fun v => v.category).sum ≤ W9) (hdg : decode c.code g.pc = .ok (.invokevirtual index, 3))
    (hpre : ∀ vm₁, s.WarmedH vm₁ → Pre ⟨T.setVm vm₁, locs, cells, slots⟩ (Value.ref b :: argsL).toArray) :
    ∃ (v : Option Value) (vm₁ : Vm) (B : Pt), s.WarmedH vm₁ ∧ Stand p l e R s m args below meth c B.U B.locs B.cells B.slots ∧ Post ⟨T.setVm vm₁, locs, cells, slots⟩ (Value.ref b :: argsL).toArray v B ∧
      ∀ target, Steps p.tables e below (B.U.setTop { g with pc := g.pc + 3, stack := v.toList ++ rest }) target → Steps p.tables e below (T.setTop g) target := by
  obtain ⟨mk, methM, hnamed, hmethM, hstM, habM⟩ := Cond.instanceMethod_spec hinst
  obtain ⟨m8, methM', cM, hn8, hmethM', -, -, -, -, -, -, hsigM⟩ := Cond.codeWith_spec hcode
  cases Option.some.inj (hn8.symm.trans hnamed)
  cases hmethM.symm.trans hmethM'
  obtain ⟨c2, r2, m2, q1, q2, q3, q4, kP, hkP, hkPi⟩ := Cond.selects_spec hsel
  cases hcls.symm.trans q1
  cases (State.methodFound?_of_named hnamed hy).symm.trans q2
  cases hnamed.symm.trans q3
  have hselP : selectMethod e.platform s.vm cellB.cls mk = .method mk := by rw [Launch.admits_selectMethod X.admits]; exact q4
  obtain ⟨vm₁, X₁, hstep₁⟩ := X.invokevirtual hexec hown hlink hnamed hmethM hstM hkP hkPi hy (a := b) (cell := cellB) hcell
    (fun z h => by rw [h] at hobj; cases hobj) hselP hmethM habM hkP hkPi (g := g) hg (argsL := argsL) (rest := rest) (hlen _ hsigM) hstack hdg
  obtain ⟨v, B, X', hpost, hsteps⟩ := hK m meth c ⟨T.setVm vm₁, locs, cells, slots⟩ { g with stack := rest } (.invokevirtual index) mk (Value.ref b :: argsL).toArray X₁ hg hsize hdg hW (X₁.named hnamed) (hpre vm₁ X₁.warmed)
  exact ⟨v, vm₁, B, X₁.warmed, X', hpost, fun target h => hstep₁ _ fun acts => by rw [doInvoke_state]; exact hsteps.trans h⟩
abbrev vx_CVW (R : Room) (s : State) (args : Array Value) (own C : String) (index : Nat) (y : MethodName) (bytes : ByteArray) (maxL : Nat) (ret : Option FieldType) (hh : List (Nat × Nat × Nat × Nat)) (ws : List Cond) (rm : Room) (mc ms n : Nat) : Prop :=
  (rm.cells = mc ∧ rm.slots = ms ∧ rm.frames + 1 ≤ R.frames ∧ 8 + (maxL + 11) + rm.locals ≤ R.locals ∧ (∀ w ∈ ws, ∀ (a' : Array Value) (U : State), s.WarmedH U.vm → w.before a' U = true) ∧ Cond.codeWith y bytes maxL ret hh ∈ ws) ∧
  (Cond.codeWith y bytes maxL ret hh).before args s = true ∧ (Cond.initialized y.cls).before args s = true ∧ (y.cls ≠ "java/lang/invoke/MethodHandle" ∧ y.cls ≠ "java/lang/invoke/VarHandle") ∧
  (∀ sig, parseMethodDescriptor y.desc = some sig → n = sig.parameters.length) ∧ (Cond.methodLink own index y).before args s = true ∧ (Cond.instanceMethod y).before args s = true ∧ (Cond.selects C y y).before args s = true
theorem vx_cwVW {own C : String} {index maxL mc ms : Nat} {y : MethodName} {bytes : ByteArray} {ret : Option FieldType} {hh : List (Nat × Nat × Nat × Nat)} {Ts ws ws' : List Cond} {rm : Room} (n : Nat) (ht : ∀ w ∈ Ts, w.before args s = true) (hT : GoodIn Ts (wsV own index C y ws)) (hw : ws = Cond.codeWith y bytes maxL ret hh :: ws') (hrc : rm.cells = mc) (hrs : rm.slots = ms)
    (hd : y.cls = C ∧ y.cls ≠ "java/lang/invoke/MethodHandle" ∧ y.cls ≠ "java/lang/invoke/VarHandle" ∧ (parseMethodDescriptor y.desc).map (fun d => d.parameters.length) = some n) (hR : rm.frames + 1 ≤ R.frames ∧ 8 + (maxL + 11) + rm.locals ≤ R.locals) :
    vx_CVW R s args own C index y bytes maxL ret hh ws rm mc ms n := by
  obtain ⟨hC, hd⟩ := hd
  subst hC
  have ok : ∀ w ∈ wsV own index y.cls y ws, w.before args s = true := fun w h => ht w (hT w h).1
  have hG : GoodIn Ts ws := fun w h => hT w (by unfold wsV; exact List.mem_append_right _ h)
  have hc : Cond.codeWith y bytes maxL ret hh ∈ ws := by rw [hw]; exact List.mem_cons_self
  refine ⟨⟨hrc, hrs, hR.1, hR.2, pay_in ht hG, hc⟩, ht _ (hG _ hc).1, ok _ (by simp [wsV]), ⟨hd.1, hd.2.1⟩, fun sig h => ?_, ok _ (by simp [wsV]), ok _ (by simp [wsV]), ok _ (by simp [wsV])⟩
  have h2 := hd.2.2
  rw [h] at h2
  exact (Option.some.inj h2).symm
theorem vx_runVW {y : MethodName} {bytes cc : ByteArray} {maxL nL mc ms n index : Nat} {ret : Option FieldType} {hh : List (Nat × Nat × Nat × Nat)} {ws : List Cond} {rm : Room} {Pc : Array Value → State → Prop} {Qc : Array Value → State → Outcome → State → Prop} {free : Addr → Prop} {Ts : List Cond} {own C : String} {b : Addr} {As rest : List Value} {g : JFrame}
    (S : CallFix p m c cc nL s args Ts own) (hM : Met l y ws rm Pc Qc mc ms free) (cw : vx_CVW R s args own C index y bytes maxL ret hh ws rm mc ms n) (hp : PreV s H C b Pc As)
    (hg : g.method = m) (hn : As.length = n) (hsize : g.locals.size = nL) (hstack : g.stack = As.reverse ++ .ref b :: rest) (hW : 2 * g.monitorRoom + (rest.map fun v => v.category).sum ≤ 8) (hdg : decode cc g.pc = .ok (.invokevirtual index, 3)) (hf : cells + mc ≤ R.cells ∧ slots + ms ≤ R.slots) :
    va_Run p l e R s m args below meth c H locs cells slots mc ms g rest (Qc (Value.ref b :: As).toArray) free := by
  obtain ⟨⟨hrc, hrs, hfr, hlo, hws, hcw⟩, hcode, hini, hy, hlen, hl, hin, hse⟩ := cw
  have hK : Back l R p e below s args y 3 8 (PreOf R mc ms Pc) (PostOf Qc mc ms free) := va_backW (hh := hh) (bytes := bytes) (maxL := maxL) (ret := ret) hM hp.1 hrc hrs hfr hlo hws hcw (fun a' U hW => word_at hW (Or.inl (by first | rfl | simp [Cond.onTables, Cond.keeps, Cond.steady])) hini)
  obtain ⟨hx, hb, hml, ho, -⟩ := S
  obtain ⟨-, ⟨cellB, hcB, hoB, hclB⟩, hPc⟩ := hp
  intro T hT X
  obtain ⟨v, vm₁, ⟨U', l2, c2, s2⟩, hW₁, X', ⟨g', mk, t, L, e1, e2, hq, h1, hL, h2, h3⟩, st⟩ := vx_callVW X hx (C := C) (hh := hh) (bytes := bytes) (maxL := maxL) (ret := ret) ho hl hin hse hcode hy hK (by rw [hT]; exact hcB) hoB hclB hg (hsize.trans hml.symm) (argsL := As) (rest := rest) (fun sig h => hn.trans (hlen sig h)) hstack hW (by rw [hb]; exact hdg)
    (fun vm₁ hW₁ => ⟨hf.1, hf.2, hPc (T.setVm vm₁) hT hW₁⟩)
  dsimp only [Pt.U, Pt.locs, Pt.cells, Pt.slots] at X' e1 e2 h1 h2 h3 st
  subst h1; subst h2; subst h3
  exact ⟨v, (T.setVm vm₁).calling g' mk (Value.ref b :: As).toArray, t, U', L, hT, X', hL, e1, e2, hq, st⟩
section
variable {y : MethodName} {bytes cc : ByteArray} {maxL nL mc ms n index : Nat} {ret : Option FieldType} {ws : List Cond} {rm : Room} {Pc : Array Value → State → Prop} {Qc : Array Value → State → Outcome → State → Prop} {XC : String → State → State → Prop} {free : Addr → Prop} {Ts : List Cond} {own C : String} {b : Addr} {As rest : List Value} {g : JFrame}
theorem vx_runVX {hh : List (Nat × Nat × Nat × Nat)} (S : CallFix p m c cc nL s args Ts own) (hM : vx_Met l y ws rm Pc Qc XC mc ms free) (cw : vx_CVW R s args own C index y bytes maxL ret hh ws rm mc ms n) (hp : PreV s H C b Pc As)
    (hg : g.method = m) (hn : As.length = n) (hsize : g.locals.size = nL) (hstack : g.stack = As.reverse ++ .ref b :: rest) (hW : 2 * g.monitorRoom + (rest.map fun v => v.category).sum ≤ 8) (hdg : decode cc g.pc = .ok (.invokevirtual index, 3)) (hf : cells + mc ≤ R.cells ∧ slots + ms ≤ R.slots) :
    vx_Run p l e R s m args below meth c H locs cells slots mc ms g rest (Qc (Value.ref b :: As).toArray) XC free := by
  obtain ⟨⟨hrc, hrs, hfr, hlo, hws, hcw⟩, hcode, hini, hy, hlen, hl, hin, hse⟩ := cw
  have hK : vx_Back l R p e below s args y 3 8 (PreOf R mc ms Pc) (PostOf Qc mc ms free) (vx_Post XC mc ms free) := vx_backW (hh := hh) (bytes := bytes) (maxL := maxL) (ret := ret) hM hp.1 hrc hrs hfr hlo hws hcw (fun a' U hW => word_at hW (Or.inl (by first | rfl | simp [Cond.onTables, Cond.keeps, Cond.steady])) hini)
  obtain ⟨hx, hb, hml, ho, -⟩ := S
  obtain ⟨-, ⟨cellB, hcB, hoB, hclB⟩, hPc⟩ := hp
  intro T hT X
  rcases vx_callVX X hx (C := C) (hh := hh) (bytes := bytes) (maxL := maxL) (ret := ret) ho hl hin hse hcode hy hK (by rw [hT]; exact hcB) hoB hclB hg (hsize.trans hml.symm) (argsL := As) (rest := rest) (fun sig h => hn.trans (hlen sig h)) hstack hW (by rw [hb]; exact hdg)
    (fun vm₁ hW₁ => ⟨hf.1, hf.2, hPc (T.setVm vm₁) hT hW₁⟩) with ⟨v, vm₁, ⟨U', l2, c2, s2⟩, hW₁, X', ⟨g', mk, t, L, e1, e2, hq, h1, hL, h2, h3⟩, st⟩ | ⟨q, vm₁, ⟨U', l2, c2, s2⟩, hW₁, X', ⟨g', mk, t, L, E, ce, e1, e2, hq, hce, hcv, hcl, h1, hL, h2, h3⟩, st⟩
  · dsimp only [Pt.U, Pt.locs, Pt.cells, Pt.slots] at X' e1 e2 h1 h2 h3 st
    subst h1; subst h2; subst h3
    exact Or.inl ⟨v, (T.setVm vm₁).calling g' mk (Value.ref b :: As).toArray, t, U', L, hT, X', hL, e1, e2, hq, st⟩
  · dsimp only [Pt.U, Pt.locs, Pt.cells, Pt.slots] at X' e1 e2 h1 h2 h3 st hcl
    subst h1; subst h2; subst h3
    exact Or.inr ⟨q, (T.setVm vm₁).calling g' mk (Value.ref b :: As).toArray, t, U', L, E, ce, hT, X', hL, e1, e2, hq, hce, hcv, vx_cls hW₁ hcl, st⟩
theorem vx_runSX {hh : List (Nat × Nat × Nat × Nat)} (S : CallFix p m c cc nL s args Ts own) (hM : vx_Met l y ws rm Pc Qc XC mc ms free) (cw : vx_CSW R s args own index y bytes maxL ret hh ws rm mc ms n) (hp : PreS s H Pc As)
    (hg : g.method = m) (hn : As.length = n) (hsize : g.locals.size = nL) (hstack : g.stack = As.reverse ++ rest) (hW : 2 * g.monitorRoom + (rest.map fun v => v.category).sum ≤ 8) (hdg : decode cc g.pc = .ok (.invokestatic index, 3)) (hf : cells + mc ≤ R.cells ∧ slots + ms ≤ R.slots) :
    vx_Run p l e R s m args below meth c H locs cells slots mc ms g rest (Qc As.toArray) XC free := by
  obtain ⟨⟨hrc, hrs, hfr, hlo, hws, hcw⟩, hcode, hini, hy, hlen, hl, hstt⟩ := cw
  have hK : vx_Back l R p e below s args y 3 8 (PreOf R mc ms Pc) (PostOf Qc mc ms free) (vx_Post XC mc ms free) := vx_backW (hh := hh) (bytes := bytes) (maxL := maxL) (ret := ret) hM hp.1 hrc hrs hfr hlo hws hcw (fun a' U hW => word_at hW (Or.inl (by first | rfl | simp [Cond.onTables, Cond.keeps, Cond.steady])) hini)
  obtain ⟨hx, hb, hml, ho, -⟩ := S
  intro T hT X
  rcases vx_callSX X hx (hh := hh) (bytes := bytes) (maxL := maxL) (ret := ret) ho hl hstt hini hcode hy hK hg (hsize.trans hml.symm) (argsL := As) (rest := rest) (fun sig h => hn.trans (hlen sig h)) hstack hW (by rw [hb]; exact hdg)
    (fun vm₁ hW₁ => ⟨hf.1, hf.2, hp.2 (T.setVm vm₁) hT hW₁⟩) with ⟨v, vm₁, ⟨U', l2, c2, s2⟩, hW₁, X', ⟨g', mk, t, L, e1, e2, hq, h1, hL, h2, h3⟩, st⟩ | ⟨q, vm₁, ⟨U', l2, c2, s2⟩, hW₁, X', ⟨g', mk, t, L, E, ce, e1, e2, hq, hce, hcv, hcl, h1, hL, h2, h3⟩, st⟩
  · dsimp only [Pt.U, Pt.locs, Pt.cells, Pt.slots] at X' e1 e2 h1 h2 h3 st
    subst h1; subst h2; subst h3
    exact Or.inl ⟨v, (T.setVm vm₁).calling g' mk As.toArray, t, U', L, hT, X', hL, e1, e2, hq, st⟩
  · dsimp only [Pt.U, Pt.locs, Pt.cells, Pt.slots] at X' e1 e2 h1 h2 h3 st hcl
    subst h1; subst h2; subst h3
    exact Or.inr ⟨q, (T.setVm vm₁).calling g' mk As.toArray, t, U', L, E, ce, hT, X', hL, e1, e2, hq, hce, hcv, vx_cls hW₁ hcl, st⟩
end
end VXH
theorem vx_ofWH {l : Launch} {y : MethodName} {ws ws' : List Cond} {rm : Room} {Pc : Array Value → State → Prop} {Qc : Array Value → State → Outcome → State → Prop} {XC : String → State → State → Prop} {mc ms : Nat} {free : Addr → Prop} {cc : ByteArray} {maxL : Nat} {ret : Option FieldType} {hh : List (Nat × Nat × Nat × Nat)}
    (hy : plainName y.cls = true) (hw : ws = Cond.codeWith y cc maxL ret hh :: ws')
    (body : ∀ p e s m args below meth c s₁, BodyLoose p l y (headSpec ws rm) cc maxL ret e s m args below meth c s₁ → c.maxLocals = maxL → Pc args s →
      W p l e (headSpec ws rm).room s m args below meth c s.heap [] 0 0 (vx_MQ below Qc XC args s mc ms free) (entryFrame m args maxL)) : vx_Met l y ws rm Pc Qc XC mc ms free := by
  refine MetFree.of_bodyS (code := cc) (maxLocals := maxL) (ret := ret) hy ?_ ?_
  · intro args s m h hn
    obtain ⟨m9, meth, c, hn9, h1, h2, h3, h4, -, h5, h6, -⟩ := Cond.codeWith_spec (atoms_spec (ws := ws) h _ (by rw [hw]; exact List.mem_cons_self))
    cases hn.symm.trans hn9
    exact ⟨meth, c, h1, h2, h3, h4, h5, h6⟩
  · intro p e s m args below meth c s₁ B hml hP _
    have hh0 : s₁.heap = s.heap := by rw [B.state]; rfl
    obtain ⟨t, a1, o, b1, b2, b3⟩ := body p e s m args below meth c s₁ B hml hP s₁ hh0 (Stand.of_body B)
    exact ⟨t, o, a1, b1, b2, b3⟩
/-! ===== END ===== -/
end
section
/-! ===== BEGIN printed: names, fields, word lists, decode rows ===== -/
def RX0 : String := "OpcodeAtlas$Form"
def TX0 : u_T := fun k => match k with
  | 0 => ("OpcodeAtlas$Form", "operands", "[LOpcodeAtlas$Operand;", true)
  | 1 => ("OpcodeAtlas$Form", "name", "I", false)
  | 2 => ("OpcodeAtlas$Form", "bytes", "I", false)
  | 3 => ("OpcodeAtlas$Form", "fixedMask", "I", false)
  | 4 => ("OpcodeAtlas$Form", "fixedBits", "I", false)
  | _ => ("OpcodeAtlas$Form", "operandCount", "I", false)
def tyX0 : Nat → FieldType := fun k => match k with
  | 0 => .array (.object "OpcodeAtlas$Operand")
  | 1 => .int
  | 2 => .int
  | 3 => .int
  | 4 => .int
  | _ => .int
abbrev wsX00 : List Cond := u_ws RX0 TX0 6
theorem nmX0 : ∀ a, a < 6 → ∀ b, b < 6 → a ≠ b → (TX0 a).2.1 ≠ (TX0 b).2.1 := by decide +kernel
theorem tyX0_ok : ∀ k, k < 6 → parseFieldDescriptor (TX0 k).2.2.1 = some (tyX0 k) := by decide +kernel
abbrev cX0_init : ByteArray := prog_2_method_1_code
def yX0_init : MethodName := ⟨RX0, "<init>", "()V"⟩
abbrev cX0_begin : ByteArray := prog_2_method_2_code
def yX0_begin : MethodName := ⟨RX0, "begin", "(II)V"⟩
abbrev cX0_addSign : ByteArray := prog_2_method_3_code
def yX0_addSign : MethodName := ⟨RX0, "addSign", "(IC)Z"⟩
abbrev cX0_countOperands : ByteArray := prog_2_method_4_code
def yX0_countOperands : MethodName := ⟨RX0, "countOperands", "()Z"⟩
abbrev cX0_agreesWith : ByteArray := prog_2_method_5_code
def yX0_agreesWith : MethodName := ⟨RX0, "agreesWith", "(I)Z"⟩
abbrev cX0_isNarrowerThan : ByteArray := prog_2_method_6_code
def yX0_isNarrowerThan : MethodName := ⟨RX0, "isNarrowerThan", "(LOpcodeAtlas$Form;)Z"⟩
abbrev cX0_clashesWith : ByteArray := prog_2_method_7_code
def yX0_clashesWith : MethodName := ⟨RX0, "clashesWith", "(LOpcodeAtlas$Form;)Z"⟩
def RX1 : String := "OpcodeAtlas$Line"
def TX1 : u_T := fun k => match k with
  | 0 => ("OpcodeAtlas$Line", "labels", "[I", true)
  | 1 => ("OpcodeAtlas$Line", "numbers", "[I", true)
  | 2 => ("OpcodeAtlas$Line", "label", "I", false)
  | 3 => ("OpcodeAtlas$Line", "name", "I", false)
  | 4 => ("OpcodeAtlas$Line", "operandCount", "I", false)
  | 5 => ("OpcodeAtlas$Line", "address", "I", false)
  | _ => ("OpcodeAtlas$Line", "form", "LOpcodeAtlas$Form;", false)
def tyX1 : Nat → FieldType := fun k => match k with
  | 0 => .array .int
  | 1 => .array .int
  | 2 => .int
  | 3 => .int
  | 4 => .int
  | 5 => .int
  | _ => .object "OpcodeAtlas$Form"
abbrev wsX10 : List Cond := u_ws RX1 TX1 7
theorem nmX1 : ∀ a, a < 7 → ∀ b, b < 7 → a ≠ b → (TX1 a).2.1 ≠ (TX1 b).2.1 := by decide +kernel
theorem tyX1_ok : ∀ k, k < 7 → parseFieldDescriptor (TX1 k).2.2.1 = some (tyX1 k) := by decide +kernel
abbrev cX1_init : ByteArray := prog_3_method_1_code
def yX1_init : MethodName := ⟨RX1, "<init>", "()V"⟩
def RX2 : String := "OpcodeAtlas$Operand"
def TX2 : u_T := fun k => match k with
  | 0 => ("OpcodeAtlas$Operand", "mask", "I", false)
  | 1 => ("OpcodeAtlas$Operand", "kind", "I", false)
  | 2 => ("OpcodeAtlas$Operand", "scale", "I", false)
  | _ => ("OpcodeAtlas$Operand", "offset", "I", false)
def tyX2 : Nat → FieldType := fun k => match k with
  | 0 => .int
  | 1 => .int
  | 2 => .int
  | _ => .int
abbrev wsX20 : List Cond := u_ws RX2 TX2 4
theorem nmX2 : ∀ a, a < 4 → ∀ b, b < 4 → a ≠ b → (TX2 a).2.1 ≠ (TX2 b).2.1 := by decide +kernel
theorem tyX2_ok : ∀ k, k < 4 → parseFieldDescriptor (TX2 k).2.2.1 = some (tyX2 k) := by decide +kernel
abbrev cX2_init : ByteArray := prog_4_method_1_code
def yX2_init : MethodName := ⟨RX2, "<init>", "()V"⟩
abbrev cX2_width : ByteArray := prog_4_method_2_code
def yX2_width : MethodName := ⟨RX2, "width", "()I"⟩
abbrev cX2_base : ByteArray := prog_4_method_3_code
def yX2_base : MethodName := ⟨RX2, "base", "(I)I"⟩
abbrev cX2_lowest : ByteArray := prog_4_method_4_code
def yX2_lowest : MethodName := ⟨RX2, "lowest", "()I"⟩
abbrev cX2_highest : ByteArray := prog_4_method_5_code
def yX2_highest : MethodName := ⟨RX2, "highest", "()I"⟩
abbrev cX2_valueIn : ByteArray := prog_4_method_6_code
def yX2_valueIn : MethodName := ⟨RX2, "valueIn", "(II)I"⟩
abbrev cX2_reaches : ByteArray := prog_4_method_7_code
def yX2_reaches : MethodName := ⟨RX2, "reaches", "(II)Z"⟩
abbrev cX2_bitsFor : ByteArray := prog_4_method_8_code
def yX2_bitsFor : MethodName := ⟨RX2, "bitsFor", "(II)I"⟩
def RX3 : String := "OpcodeAtlas$Text"
def TX3 : u_T := fun k => match k with
  | 0 => ("OpcodeAtlas$Text", "chars", "[C", true)
  | 1 => ("OpcodeAtlas$Text", "length", "I", false)
  | _ => ("OpcodeAtlas$Text", "next", "I", false)
def tyX3 : Nat → FieldType := fun k => match k with
  | 0 => .array .char
  | 1 => .int
  | _ => .int
abbrev wsX30 : List Cond := u_ws RX3 TX3 3
theorem nmX3 : ∀ a, a < 3 → ∀ b, b < 3 → a ≠ b → (TX3 a).2.1 ≠ (TX3 b).2.1 := by decide +kernel
theorem tyX3_ok : ∀ k, k < 3 → parseFieldDescriptor (TX3 k).2.2.1 = some (tyX3 k) := by decide +kernel
abbrev cX3_init : ByteArray := prog_5_method_1_code
def yX3_init : MethodName := ⟨RX3, "<init>", "()V"⟩
abbrev cX3_clear : ByteArray := prog_5_method_2_code
def yX3_clear : MethodName := ⟨RX3, "clear", "()V"⟩
abbrev cX3_add : ByteArray := prog_5_method_3_code
def yX3_add : MethodName := ⟨RX3, "add", "(C)Z"⟩
abbrev cX3_addName : ByteArray := prog_5_method_4_code
def yX3_addName : MethodName := ⟨RX3, "addName", "(I)V"⟩
abbrev cX3_addNumber : ByteArray := prog_5_method_5_code
def yX3_addNumber : MethodName := ⟨RX3, "addNumber", "(I)V"⟩
abbrev cX3_at : ByteArray := prog_5_method_6_code
def yX3_at : MethodName := ⟨RX3, "at", "(I)C"⟩
abbrev cX3_left : ByteArray := prog_5_method_7_code
def yX3_left : MethodName := ⟨RX3, "left", "()I"⟩
abbrev cX3_nextIsWithin : ByteArray := prog_5_method_8_code
def yX3_nextIsWithin : MethodName := ⟨RX3, "nextIsWithin", "(CC)Z"⟩
abbrev cX3_take : ByteArray := prog_5_method_9_code
def yX3_take : MethodName := ⟨RX3, "take", "(C)Z"⟩
abbrev cX3_takeAny : ByteArray := prog_5_method_10_code
def yX3_takeAny : MethodName := ⟨RX3, "takeAny", "()C"⟩
abbrev cX3_takeName : ByteArray := prog_5_method_11_code
def yX3_takeName : MethodName := ⟨RX3, "takeName", "()I"⟩
abbrev cX3_takeLabel : ByteArray := prog_5_method_12_code
def yX3_takeLabel : MethodName := ⟨RX3, "takeLabel", "()I"⟩
abbrev cX3_takeDigits : ByteArray := prog_5_method_13_code
def yX3_takeDigits : MethodName := ⟨RX3, "takeDigits", "()I"⟩
def RX4 : String := "OpcodeAtlas"
def TX4 : u_T := fun k => match k with
  | 0 => ("OpcodeAtlas", "typed", "LOpcodeAtlas$Text;", true)
  | 1 => ("OpcodeAtlas", "output", "LOpcodeAtlas$Text;", true)
  | 2 => ("OpcodeAtlas", "memory", "[I", true)
  | 3 => ("OpcodeAtlas", "forms", "[LOpcodeAtlas$Form;", true)
  | 4 => ("OpcodeAtlas", "lines", "[LOpcodeAtlas$Line;", true)
  | 5 => ("OpcodeAtlas", "formCount", "I", false)
  | 6 => ("OpcodeAtlas", "lineCount", "I", false)
  | 7 => ("OpcodeAtlas", "faultLine", "I", false)
  | _ => ("OpcodeAtlas", "ready", "Z", false)
def tyX4 : Nat → FieldType := fun k => match k with
  | 0 => .object "OpcodeAtlas$Text"
  | 1 => .object "OpcodeAtlas$Text"
  | 2 => .array .int
  | 3 => .array (.object "OpcodeAtlas$Form")
  | 4 => .array (.object "OpcodeAtlas$Line")
  | 5 => .int
  | 6 => .int
  | 7 => .int
  | _ => .boolean
abbrev wsX40 : List Cond := u_ws RX4 TX4 9
theorem nmX4 : ∀ a, a < 9 → ∀ b, b < 9 → a ≠ b → (TX4 a).2.1 ≠ (TX4 b).2.1 := by decide +kernel
theorem tyX4_ok : ∀ k, k < 9 → parseFieldDescriptor (TX4 k).2.2.1 = some (tyX4 k) := by decide +kernel
abbrev cX4_init : ByteArray := prog_1_method_1_code
def yX4_init : MethodName := ⟨RX4, "<init>", "()V"⟩
abbrev cX4_type : ByteArray := prog_1_method_2_code
def yX4_type : MethodName := ⟨RX4, "type", "(C)I"⟩
abbrev cX4_form : ByteArray := prog_1_method_3_code
def yX4_form : MethodName := ⟨RX4, "form", "()I"⟩
abbrev cX4_operand : ByteArray := prog_1_method_4_code
def yX4_operand : MethodName := ⟨RX4, "operand", "(IIIII)I"⟩
abbrev cX4_test : ByteArray := prog_1_method_5_code
def yX4_test : MethodName := ⟨RX4, "test", "()I"⟩
abbrev cX4_poke : ByteArray := prog_1_method_6_code
def yX4_poke : MethodName := ⟨RX4, "poke", "(II)I"⟩
abbrev cX4_peek : ByteArray := prog_1_method_7_code
def yX4_peek : MethodName := ⟨RX4, "peek", "(I)I"⟩
abbrev cX4_decode : ByteArray := prog_1_method_8_code
def yX4_decode : MethodName := ⟨RX4, "decode", "(I)I"⟩
abbrev cX4_value : ByteArray := prog_1_method_9_code
def yX4_value : MethodName := ⟨RX4, "value", "(II)I"⟩
abbrev cX4_write : ByteArray := prog_1_method_10_code
def yX4_write : MethodName := ⟨RX4, "write", "(I)I"⟩
abbrev cX4_written : ByteArray := prog_1_method_11_code
def yX4_written : MethodName := ⟨RX4, "written", "(I)C"⟩
abbrev cX4_line : ByteArray := prog_1_method_12_code
def yX4_line : MethodName := ⟨RX4, "line", "()I"⟩
abbrev cX4_erase : ByteArray := prog_1_method_13_code
def yX4_erase : MethodName := ⟨RX4, "erase", "()I"⟩
abbrev cX4_assemble : ByteArray := prog_1_method_14_code
def yX4_assemble : MethodName := ⟨RX4, "assemble", "(I)I"⟩
abbrev cX4_fault : ByteArray := prog_1_method_15_code
def yX4_fault : MethodName := ⟨RX4, "fault", "()I"⟩
abbrev cX4_count : ByteArray := prog_1_method_16_code
def yX4_count : MethodName := ⟨RX4, "count", "(I)I"⟩
abbrev cX4_requireReady : ByteArray := prog_1_method_17_code
def yX4_requireReady : MethodName := ⟨RX4, "requireReady", "()V"⟩
abbrev cX4_requireAddress : ByteArray := prog_1_method_18_code
def yX4_requireAddress : MethodName := ⟨RX4, "requireAddress", "(I)V"⟩
abbrev cX4_readForm : ByteArray := prog_1_method_19_code
def yX4_readForm : MethodName := ⟨RX4, "readForm", "(LOpcodeAtlas$Form;)Z"⟩
abbrev cX4_findForm : ByteArray := prog_1_method_20_code
def yX4_findForm : MethodName := ⟨RX4, "findForm", "(II)I"⟩
abbrev cX4_narrowestAt : ByteArray := prog_1_method_21_code
def yX4_narrowestAt : MethodName := ⟨RX4, "narrowestAt", "(I)I"⟩
abbrev cX4_wordAt : ByteArray := prog_1_method_22_code
def yX4_wordAt : MethodName := ⟨RX4, "wordAt", "(I)I"⟩
abbrev cX4_operandAt : ByteArray := prog_1_method_23_code
def yX4_operandAt : MethodName := ⟨RX4, "operandAt", "(ILOpcodeAtlas$Form;I)I"⟩
abbrev cX4_writeInstruction : ByteArray := prog_1_method_24_code
def yX4_writeInstruction : MethodName := ⟨RX4, "writeInstruction", "(ILOpcodeAtlas$Form;)V"⟩
abbrev cX4_readLine : ByteArray := prog_1_method_25_code
def yX4_readLine : MethodName := ⟨RX4, "readLine", "(LOpcodeAtlas$Line;)Z"⟩
abbrev cX4_readOperands : ByteArray := prog_1_method_26_code
def yX4_readOperands : MethodName := ⟨RX4, "readOperands", "(LOpcodeAtlas$Line;)Z"⟩
abbrev cX4_findLabel : ByteArray := prog_1_method_27_code
def yX4_findLabel : MethodName := ⟨RX4, "findLabel", "(I)I"⟩
abbrev cX4_chooseForms : ByteArray := prog_1_method_28_code
def yX4_chooseForms : MethodName := ⟨RX4, "chooseForms", "()I"⟩
abbrev cX4_firstWithUnknownLabel : ByteArray := prog_1_method_29_code
def yX4_firstWithUnknownLabel : MethodName := ⟨RX4, "firstWithUnknownLabel", "()I"⟩
abbrev cX4_placeLines : ByteArray := prog_1_method_30_code
def yX4_placeLines : MethodName := ⟨RX4, "placeLines", "(I)I"⟩
abbrev cX4_firstUnfit : ByteArray := prog_1_method_31_code
def yX4_firstUnfit : MethodName := ⟨RX4, "firstUnfit", "()I"⟩
abbrev cX4_fits : ByteArray := prog_1_method_32_code
def yX4_fits : MethodName := ⟨RX4, "fits", "(LOpcodeAtlas$Line;LOpcodeAtlas$Form;)Z"⟩
abbrev cX4_wanted : ByteArray := prog_1_method_33_code
def yX4_wanted : MethodName := ⟨RX4, "wanted", "(LOpcodeAtlas$Line;I)I"⟩
abbrev cX4_putLines : ByteArray := prog_1_method_34_code
def yX4_putLines : MethodName := ⟨RX4, "putLines", "()V"⟩
abbrev cX4_putInstruction : ByteArray := prog_1_method_35_code
def yX4_putInstruction : MethodName := ⟨RX4, "putInstruction", "(LOpcodeAtlas$Line;LOpcodeAtlas$Form;)V"⟩
def RX5 : String := "OpcodeAtlasModel"
def TX5 : u_T := fun k => match k with
  | 0 => ("OpcodeAtlasModel", "length", "I", false)
  | 1 => ("OpcodeAtlasModel", "text", "[C", true)
  | 2 => ("OpcodeAtlasModel", "at", "I", false)
  | 3 => ("OpcodeAtlasModel", "bad", "Z", false)
  | 4 => ("OpcodeAtlasModel", "forms", "I", false)
  | 5 => ("OpcodeAtlasModel", "formName", "[I", true)
  | 6 => ("OpcodeAtlasModel", "signs", "[I", true)
  | 7 => ("OpcodeAtlasModel", "sign", "[I", true)
  | 8 => ("OpcodeAtlasModel", "operands", "[I", true)
  | 9 => ("OpcodeAtlasModel", "bits", "[I", true)
  | 10 => ("OpcodeAtlasModel", "kind", "[I", true)
  | 11 => ("OpcodeAtlasModel", "scale", "[I", true)
  | 12 => ("OpcodeAtlasModel", "offset", "[I", true)
  | 13 => ("OpcodeAtlasModel", "ready", "Z", false)
  | 14 => ("OpcodeAtlasModel", "newSign", "[I", true)
  | 15 => ("OpcodeAtlasModel", "newBits", "[I", true)
  | 16 => ("OpcodeAtlasModel", "memory", "[I", true)
  | 17 => ("OpcodeAtlasModel", "lines", "I", false)
  | 18 => ("OpcodeAtlasModel", "label", "[I", true)
  | 19 => ("OpcodeAtlasModel", "lineName", "[I", true)
  | 20 => ("OpcodeAtlasModel", "many", "[I", true)
  | 21 => ("OpcodeAtlasModel", "number", "[I", true)
  | 22 => ("OpcodeAtlasModel", "isLabel", "[Z", true)
  | 23 => ("OpcodeAtlasModel", "newNumber", "[I", true)
  | 24 => ("OpcodeAtlasModel", "newIsLabel", "[Z", true)
  | 25 => ("OpcodeAtlasModel", "address", "[I", true)
  | 26 => ("OpcodeAtlasModel", "put", "[I", true)
  | 27 => ("OpcodeAtlasModel", "faulty", "I", false)
  | 28 => ("OpcodeAtlasModel", "size", "I", false)
  | 29 => ("OpcodeAtlasModel", "out", "[C", true)
  | _ => ("OpcodeAtlasModel", "thrown", "I", false)
def tyX5 : Nat → FieldType := fun k => match k with
  | 0 => .int
  | 1 => .array .char
  | 2 => .int
  | 3 => .boolean
  | 4 => .int
  | 5 => .array .int
  | 6 => .array .int
  | 7 => .array .int
  | 8 => .array .int
  | 9 => .array .int
  | 10 => .array .int
  | 11 => .array .int
  | 12 => .array .int
  | 13 => .boolean
  | 14 => .array .int
  | 15 => .array .int
  | 16 => .array .int
  | 17 => .int
  | 18 => .array .int
  | 19 => .array .int
  | 20 => .array .int
  | 21 => .array .int
  | 22 => .array .boolean
  | 23 => .array .int
  | 24 => .array .boolean
  | 25 => .array .int
  | 26 => .array .int
  | 27 => .int
  | 28 => .int
  | 29 => .array .char
  | _ => .int
abbrev wsX50 : List Cond := u_ws RX5 TX5 31
theorem nmX5 : ∀ a, a < 31 → ∀ b, b < 31 → a ≠ b → (TX5 a).2.1 ≠ (TX5 b).2.1 := by decide +kernel
theorem tyX5_ok : ∀ k, k < 31 → parseFieldDescriptor (TX5 k).2.2.1 = some (tyX5 k) := by decide +kernel
abbrev cX5_init : ByteArray := prog_7_method_1_code
def yX5_init : MethodName := ⟨RX5, "<init>", "()V"⟩
abbrev cX5_thrown : ByteArray := prog_7_method_2_code
def yX5_thrown : MethodName := ⟨RX5, "thrown", "()I"⟩
abbrev cX5_type : ByteArray := prog_7_method_3_code
def yX5_type : MethodName := ⟨RX5, "type", "(C)I"⟩
abbrev cX5_here : ByteArray := prog_7_method_4_code
def yX5_here : MethodName := ⟨RX5, "here", "()I"⟩
abbrev cX5_must : ByteArray := prog_7_method_5_code
def yX5_must : MethodName := ⟨RX5, "must", "(I)V"⟩
abbrev cX5_isLetter : ByteArray := prog_7_method_6_code
def yX5_isLetter : MethodName := ⟨RX5, "isLetter", "(I)Z"⟩
abbrev cX5_isDigit : ByteArray := prog_7_method_7_code
def yX5_isDigit : MethodName := ⟨RX5, "isDigit", "(I)Z"⟩
abbrev cX5_readName : ByteArray := prog_7_method_8_code
def yX5_readName : MethodName := ⟨RX5, "readName", "()I"⟩
abbrev cX5_signOf : ByteArray := prog_7_method_9_code
def yX5_signOf : MethodName := ⟨RX5, "signOf", "(I)I"⟩
abbrev cX5_readSigns : ByteArray := prog_7_method_10_code
def yX5_readSigns : MethodName := ⟨RX5, "readSigns", "()I"⟩
abbrev cX5_formOf : ByteArray := prog_7_method_11_code
def yX5_formOf : MethodName := ⟨RX5, "formOf", "(II)I"⟩
abbrev cX5_form : ByteArray := prog_7_method_12_code
def yX5_form : MethodName := ⟨RX5, "form", "()I"⟩
abbrev cX5_outside : ByteArray := prog_7_method_13_code
def yX5_outside : MethodName := ⟨RX5, "outside", "(III)Z"⟩
abbrev cX5_operand : ByteArray := prog_7_method_14_code
def yX5_operand : MethodName := ⟨RX5, "operand", "(IIIII)I"⟩
abbrev cX5_fixed : ByteArray := prog_7_method_15_code
def yX5_fixed : MethodName := ⟨RX5, "fixed", "(II)I"⟩
abbrev cX5_isNarrower : ByteArray := prog_7_method_16_code
def yX5_isNarrower : MethodName := ⟨RX5, "isNarrower", "(II)Z"⟩
abbrev cX5_clash : ByteArray := prog_7_method_17_code
def yX5_clash : MethodName := ⟨RX5, "clash", "(II)Z"⟩
abbrev cX5_test : ByteArray := prog_7_method_18_code
def yX5_test : MethodName := ⟨RX5, "test", "()I"⟩
abbrev cX5_poke : ByteArray := prog_7_method_19_code
def yX5_poke : MethodName := ⟨RX5, "poke", "(II)I"⟩
abbrev cX5_peek : ByteArray := prog_7_method_20_code
def yX5_peek : MethodName := ⟨RX5, "peek", "(I)I"⟩
abbrev cX5_bitAt : ByteArray := prog_7_method_21_code
def yX5_bitAt : MethodName := ⟨RX5, "bitAt", "(II)I"⟩
abbrev cX5_matches : ByteArray := prog_7_method_22_code
def yX5_matches : MethodName := ⟨RX5, "matches", "(II)Z"⟩
abbrev cX5_decoded : ByteArray := prog_7_method_23_code
def yX5_decoded : MethodName := ⟨RX5, "decoded", "(I)I"⟩
abbrev cX5_wrongAddress : ByteArray := prog_7_method_24_code
def yX5_wrongAddress : MethodName := ⟨RX5, "wrongAddress", "(I)I"⟩
abbrev cX5_decode : ByteArray := prog_7_method_25_code
def yX5_decode : MethodName := ⟨RX5, "decode", "(I)I"⟩
abbrev cX5_valueOf : ByteArray := prog_7_method_26_code
def yX5_valueOf : MethodName := ⟨RX5, "valueOf", "(III)I"⟩
abbrev cX5_value : ByteArray := prog_7_method_27_code
def yX5_value : MethodName := ⟨RX5, "value", "(II)I"⟩
abbrev cX5_add : ByteArray := prog_7_method_28_code
def yX5_add : MethodName := ⟨RX5, "add", "(I)V"⟩
abbrev cX5_addNumber : ByteArray := prog_7_method_29_code
def yX5_addNumber : MethodName := ⟨RX5, "addNumber", "(I)V"⟩
abbrev cX5_addName : ByteArray := prog_7_method_30_code
def yX5_addName : MethodName := ⟨RX5, "addName", "(I)V"⟩
abbrev cX5_write : ByteArray := prog_7_method_31_code
def yX5_write : MethodName := ⟨RX5, "write", "(I)I"⟩
abbrev cX5_written : ByteArray := prog_7_method_32_code
def yX5_written : MethodName := ⟨RX5, "written", "(I)C"⟩
abbrev cX5_isLabelLetter : ByteArray := prog_7_method_33_code
def yX5_isLabelLetter : MethodName := ⟨RX5, "isLabelLetter", "(I)Z"⟩
abbrev cX5_readOperand : ByteArray := prog_7_method_34_code
def yX5_readOperand : MethodName := ⟨RX5, "readOperand", "(I)V"⟩
abbrev cX5_readOperands : ByteArray := prog_7_method_35_code
def yX5_readOperands : MethodName := ⟨RX5, "readOperands", "()I"⟩
abbrev cX5_line : ByteArray := prog_7_method_36_code
def yX5_line : MethodName := ⟨RX5, "line", "()I"⟩
abbrev cX5_erase : ByteArray := prog_7_method_37_code
def yX5_erase : MethodName := ⟨RX5, "erase", "()I"⟩
abbrev cX5_lineOf : ByteArray := prog_7_method_38_code
def yX5_lineOf : MethodName := ⟨RX5, "lineOf", "(I)I"⟩
abbrev cX5_missing : ByteArray := prog_7_method_39_code
def yX5_missing : MethodName := ⟨RX5, "missing", "()I"⟩
abbrev cX5_fieldOf : ByteArray := prog_7_method_40_code
def yX5_fieldOf : MethodName := ⟨RX5, "fieldOf", "(IIII)I"⟩
abbrev cX5_laid : ByteArray := prog_7_method_41_code
def yX5_laid : MethodName := ⟨RX5, "laid", "(II)Z"⟩
abbrev cX5_assemble : ByteArray := prog_7_method_42_code
def yX5_assemble : MethodName := ⟨RX5, "assemble", "(I)I"⟩
abbrev cX5_fault : ByteArray := prog_7_method_43_code
def yX5_fault : MethodName := ⟨RX5, "fault", "()I"⟩
abbrev cX5_count : ByteArray := prog_7_method_44_code
def yX5_count : MethodName := ⟨RX5, "count", "(I)I"⟩
def RJ6 : String := "java/lang/Integer"
def TJ6 : u_T := fun k => match k with
  | _ => ("", "", "", false)
def tyJ6 : Nat → FieldType := fun k => match k with
  | _ => .int
abbrev wsJ60 : List Cond := u_ws RJ6 TJ6 0
theorem nmJ6 : ∀ a, a < 0 → ∀ b, b < 0 → a ≠ b → (TJ6 a).2.1 ≠ (TJ6 b).2.1 := by decide +kernel
theorem tyJ6_ok : ∀ k, k < 0 → parseFieldDescriptor (TJ6 k).2.2.1 = some (tyJ6 k) := by decide +kernel
abbrev cJ6_bitCount_0f7a4 : ByteArray := prog_12_method_49_code
def yJ6_bitCount_0f7a4 : MethodName := ⟨RJ6, "bitCount", "(I)I"⟩
def RJ0 : String := "java/lang/String"
def TJ0 : u_T := fun k => match k with
  | _ => ("", "", "", false)
def tyJ0 : Nat → FieldType := fun k => match k with
  | _ => .int
abbrev wsJ00 : List Cond := u_ws RJ0 TJ0 0
theorem nmJ0 : ∀ a, a < 0 → ∀ b, b < 0 → a ≠ b → (TJ0 a).2.1 ≠ (TJ0 b).2.1 := by decide +kernel
theorem tyJ0_ok : ∀ k, k < 0 → parseFieldDescriptor (TJ0 k).2.2.1 = some (tyJ0 k) := by decide +kernel
def RL : String := "OpcodeAtlasLaw"
abbrev cL_form : ByteArray := method_3_code
def yL_form : MethodName := ⟨RL, "form", "(LOpcodeAtlas;[J)I"⟩
abbrev cL_operand : ByteArray := method_4_code
def yL_operand : MethodName := ⟨RL, "operand", "(LOpcodeAtlas;IIIII[J)I"⟩
abbrev cL_poke : ByteArray := method_5_code
def yL_poke : MethodName := ⟨RL, "poke", "(LOpcodeAtlas;II[J)I"⟩
abbrev cL_peek : ByteArray := method_6_code
def yL_peek : MethodName := ⟨RL, "peek", "(LOpcodeAtlas;I[J)I"⟩
abbrev cL_decode : ByteArray := method_7_code
def yL_decode : MethodName := ⟨RL, "decode", "(LOpcodeAtlas;I[J)I"⟩
abbrev cL_value : ByteArray := method_8_code
def yL_value : MethodName := ⟨RL, "value", "(LOpcodeAtlas;II[J)I"⟩
abbrev cL_write : ByteArray := method_9_code
def yL_write : MethodName := ⟨RL, "write", "(LOpcodeAtlas;I[J)I"⟩
abbrev cL_line : ByteArray := method_10_code
def yL_line : MethodName := ⟨RL, "line", "(LOpcodeAtlas;[J)I"⟩
abbrev cL_assemble : ByteArray := method_11_code
def yL_assemble : MethodName := ⟨RL, "assemble", "(LOpcodeAtlas;I[J)I"⟩
abbrev cL_law : ByteArray := code
def yL_law : MethodName := ⟨RL, "law", "([I)Z"⟩
abbrev vwCl : List vw_C := [(RX0, TX0, 6), (RX1, TX1, 7), (RX2, TX2, 4), (RX3, TX3, 3), (RX4, TX4, 9), (RX5, TX5, 31)]
end
section
theorem dX0_init_0 : decode cX0_init 0 = .ok (.aload_n 0, 1) := by decide +kernel
theorem dX0_init_1 : decode cX0_init 1 = .ok (.invokespecial 3, 3) := by decide +kernel
theorem dX0_init_4 : decode cX0_init 4 = .ok (.aload_n 0, 1) := by decide +kernel
theorem dX0_init_5 : decode cX0_init 5 = .ok (.iconst 3, 1) := by decide +kernel
theorem dX0_init_6 : decode cX0_init 6 = .ok (.anewarray 9, 3) := by decide +kernel
theorem dX0_init_9 : decode cX0_init 9 = .ok (.putfield 11, 3) := by decide +kernel
theorem dX0_init_12 : decode cX0_init 12 = .ok (.iconst 0, 1) := by decide +kernel
theorem dX0_init_13 : decode cX0_init 13 = .ok (.istore_n 1, 1) := by decide +kernel
theorem dX0_init_14 : decode cX0_init 14 = .ok (.iload_n 1, 1) := by decide +kernel
theorem dX0_init_15 : decode cX0_init 15 = .ok (.aload_n 0, 1) := by decide +kernel
theorem dX0_init_16 : decode cX0_init 16 = .ok (.getfield 11, 3) := by decide +kernel
theorem dX0_init_19 : decode cX0_init 19 = .ok (.arraylength, 1) := by decide +kernel
theorem dX0_init_20 : decode cX0_init 20 = .ok (.if_icmp .ge 22, 3) := by decide +kernel
theorem dX0_init_23 : decode cX0_init 23 = .ok (.aload_n 0, 1) := by decide +kernel
theorem dX0_init_24 : decode cX0_init 24 = .ok (.getfield 11, 3) := by decide +kernel
theorem dX0_init_27 : decode cX0_init 27 = .ok (.iload_n 1, 1) := by decide +kernel
theorem dX0_init_28 : decode cX0_init 28 = .ok (.new 9, 3) := by decide +kernel
theorem dX0_init_31 : decode cX0_init 31 = .ok (.dup, 1) := by decide +kernel
theorem dX0_init_32 : decode cX0_init 32 = .ok (.invokespecial 17, 3) := by decide +kernel
theorem dX0_init_35 : decode cX0_init 35 = .ok (.aastore, 1) := by decide +kernel
theorem dX0_init_36 : decode cX0_init 36 = .ok (.iinc 1 1, 3) := by decide +kernel
theorem dX0_init_39 : decode cX0_init 39 = .ok (.goto (-25), 3) := by decide +kernel
theorem dX0_init_42 : decode cX0_init 42 = .ok (.return_, 1) := by decide +kernel
theorem dX0_begin_0 : decode cX0_begin 0 = .ok (.aload_n 0, 1) := by decide +kernel
theorem dX0_begin_1 : decode cX0_begin 1 = .ok (.iload_n 1, 1) := by decide +kernel
theorem dX0_begin_2 : decode cX0_begin 2 = .ok (.putfield 18, 3) := by decide +kernel
theorem dX0_begin_5 : decode cX0_begin 5 = .ok (.aload_n 0, 1) := by decide +kernel
theorem dX0_begin_6 : decode cX0_begin 6 = .ok (.iload_n 2, 1) := by decide +kernel
theorem dX0_begin_7 : decode cX0_begin 7 = .ok (.putfield 22, 3) := by decide +kernel
theorem dX0_begin_10 : decode cX0_begin 10 = .ok (.aload_n 0, 1) := by decide +kernel
theorem dX0_begin_11 : decode cX0_begin 11 = .ok (.iconst 0, 1) := by decide +kernel
theorem dX0_begin_12 : decode cX0_begin 12 = .ok (.putfield 25, 3) := by decide +kernel
theorem dX0_begin_15 : decode cX0_begin 15 = .ok (.aload_n 0, 1) := by decide +kernel
theorem dX0_begin_16 : decode cX0_begin 16 = .ok (.iconst 0, 1) := by decide +kernel
theorem dX0_begin_17 : decode cX0_begin 17 = .ok (.putfield 28, 3) := by decide +kernel
theorem dX0_begin_20 : decode cX0_begin 20 = .ok (.aload_n 0, 1) := by decide +kernel
theorem dX0_begin_21 : decode cX0_begin 21 = .ok (.iconst 0, 1) := by decide +kernel
theorem dX0_begin_22 : decode cX0_begin 22 = .ok (.putfield 31, 3) := by decide +kernel
theorem dX0_begin_25 : decode cX0_begin 25 = .ok (.iconst 0, 1) := by decide +kernel
theorem dX0_begin_26 : decode cX0_begin 26 = .ok (.istore_n 3, 1) := by decide +kernel
theorem dX0_begin_27 : decode cX0_begin 27 = .ok (.iload_n 3, 1) := by decide +kernel
theorem dX0_begin_28 : decode cX0_begin 28 = .ok (.aload_n 0, 1) := by decide +kernel
theorem dX0_begin_29 : decode cX0_begin 29 = .ok (.getfield 11, 3) := by decide +kernel
theorem dX0_begin_32 : decode cX0_begin 32 = .ok (.arraylength, 1) := by decide +kernel
theorem dX0_begin_33 : decode cX0_begin 33 = .ok (.if_icmp .ge 19, 3) := by decide +kernel
theorem dX0_begin_36 : decode cX0_begin 36 = .ok (.aload_n 0, 1) := by decide +kernel
theorem dX0_begin_37 : decode cX0_begin 37 = .ok (.getfield 11, 3) := by decide +kernel
theorem dX0_begin_40 : decode cX0_begin 40 = .ok (.iload_n 3, 1) := by decide +kernel
theorem dX0_begin_41 : decode cX0_begin 41 = .ok (.aaload, 1) := by decide +kernel
theorem dX0_begin_42 : decode cX0_begin 42 = .ok (.iconst 0, 1) := by decide +kernel
theorem dX0_begin_43 : decode cX0_begin 43 = .ok (.putfield 34, 3) := by decide +kernel
theorem dX0_begin_46 : decode cX0_begin 46 = .ok (.iinc 3 1, 3) := by decide +kernel
theorem dX0_begin_49 : decode cX0_begin 49 = .ok (.goto (-22), 3) := by decide +kernel
theorem dX0_begin_52 : decode cX0_begin 52 = .ok (.return_, 1) := by decide +kernel
theorem dX0_addSign_0 : decode cX0_addSign 0 = .ok (.iconst 1, 1) := by decide +kernel
theorem dX0_addSign_1 : decode cX0_addSign 1 = .ok (.bipush 23, 2) := by decide +kernel
theorem dX0_addSign_3 : decode cX0_addSign 3 = .ok (.iload_n 1, 1) := by decide +kernel
theorem dX0_addSign_4 : decode cX0_addSign 4 = .ok (.isub, 1) := by decide +kernel
theorem dX0_addSign_5 : decode cX0_addSign 5 = .ok (.ishl, 1) := by decide +kernel
theorem dX0_addSign_6 : decode cX0_addSign 6 = .ok (.istore_n 3, 1) := by decide +kernel
theorem dX0_addSign_7 : decode cX0_addSign 7 = .ok (.iload_n 2, 1) := by decide +kernel
theorem dX0_addSign_8 : decode cX0_addSign 8 = .ok (.bipush 48, 2) := by decide +kernel
theorem dX0_addSign_10 : decode cX0_addSign 10 = .ok (.if_icmp .eq 9, 3) := by decide +kernel
theorem dX0_addSign_13 : decode cX0_addSign 13 = .ok (.iload_n 2, 1) := by decide +kernel
theorem dX0_addSign_14 : decode cX0_addSign 14 = .ok (.bipush 49, 2) := by decide +kernel
theorem dX0_addSign_16 : decode cX0_addSign 16 = .ok (.if_icmp .ne 35, 3) := by decide +kernel
theorem dX0_addSign_19 : decode cX0_addSign 19 = .ok (.aload_n 0, 1) := by decide +kernel
theorem dX0_addSign_20 : decode cX0_addSign 20 = .ok (.dup, 1) := by decide +kernel
theorem dX0_addSign_21 : decode cX0_addSign 21 = .ok (.getfield 25, 3) := by decide +kernel
theorem dX0_addSign_24 : decode cX0_addSign 24 = .ok (.iload_n 3, 1) := by decide +kernel
theorem dX0_addSign_25 : decode cX0_addSign 25 = .ok (.ior, 1) := by decide +kernel
theorem dX0_addSign_26 : decode cX0_addSign 26 = .ok (.putfield 25, 3) := by decide +kernel
theorem dX0_addSign_29 : decode cX0_addSign 29 = .ok (.aload_n 0, 1) := by decide +kernel
theorem dX0_addSign_30 : decode cX0_addSign 30 = .ok (.dup, 1) := by decide +kernel
theorem dX0_addSign_31 : decode cX0_addSign 31 = .ok (.getfield 28, 3) := by decide +kernel
theorem dX0_addSign_34 : decode cX0_addSign 34 = .ok (.iload_n 2, 1) := by decide +kernel
theorem dX0_addSign_35 : decode cX0_addSign 35 = .ok (.bipush 49, 2) := by decide +kernel
theorem dX0_addSign_37 : decode cX0_addSign 37 = .ok (.if_icmp .ne 7, 3) := by decide +kernel
theorem dX0_addSign_40 : decode cX0_addSign 40 = .ok (.iload_n 3, 1) := by decide +kernel
theorem dX0_addSign_41 : decode cX0_addSign 41 = .ok (.goto 4, 3) := by decide +kernel
theorem dX0_addSign_44 : decode cX0_addSign 44 = .ok (.iconst 0, 1) := by decide +kernel
theorem dX0_addSign_45 : decode cX0_addSign 45 = .ok (.ior, 1) := by decide +kernel
theorem dX0_addSign_46 : decode cX0_addSign 46 = .ok (.putfield 28, 3) := by decide +kernel
theorem dX0_addSign_49 : decode cX0_addSign 49 = .ok (.iconst 1, 1) := by decide +kernel
theorem dX0_addSign_50 : decode cX0_addSign 50 = .ok (.ireturn, 1) := by decide +kernel
theorem dX0_addSign_51 : decode cX0_addSign 51 = .ok (.iload_n 2, 1) := by decide +kernel
theorem dX0_addSign_52 : decode cX0_addSign 52 = .ok (.bipush 120, 2) := by decide +kernel
theorem dX0_addSign_54 : decode cX0_addSign 54 = .ok (.if_icmp .lt 9, 3) := by decide +kernel
theorem dX0_addSign_57 : decode cX0_addSign 57 = .ok (.iload_n 2, 1) := by decide +kernel
theorem dX0_addSign_58 : decode cX0_addSign 58 = .ok (.bipush 122, 2) := by decide +kernel
theorem dX0_addSign_60 : decode cX0_addSign 60 = .ok (.if_icmp .le 5, 3) := by decide +kernel
theorem dX0_addSign_63 : decode cX0_addSign 63 = .ok (.iconst 0, 1) := by decide +kernel
theorem dX0_addSign_64 : decode cX0_addSign 64 = .ok (.ireturn, 1) := by decide +kernel
theorem dX0_addSign_65 : decode cX0_addSign 65 = .ok (.aload_n 0, 1) := by decide +kernel
theorem dX0_addSign_66 : decode cX0_addSign 66 = .ok (.getfield 11, 3) := by decide +kernel
theorem dX0_addSign_69 : decode cX0_addSign 69 = .ok (.iload_n 2, 1) := by decide +kernel
theorem dX0_addSign_70 : decode cX0_addSign 70 = .ok (.bipush 120, 2) := by decide +kernel
theorem dX0_addSign_72 : decode cX0_addSign 72 = .ok (.isub, 1) := by decide +kernel
theorem dX0_addSign_73 : decode cX0_addSign 73 = .ok (.aaload, 1) := by decide +kernel
theorem dX0_addSign_74 : decode cX0_addSign 74 = .ok (.dup, 1) := by decide +kernel
theorem dX0_addSign_75 : decode cX0_addSign 75 = .ok (.getfield 34, 3) := by decide +kernel
theorem dX0_addSign_78 : decode cX0_addSign 78 = .ok (.iload_n 3, 1) := by decide +kernel
theorem dX0_addSign_79 : decode cX0_addSign 79 = .ok (.ior, 1) := by decide +kernel
theorem dX0_addSign_80 : decode cX0_addSign 80 = .ok (.putfield 34, 3) := by decide +kernel
theorem dX0_addSign_83 : decode cX0_addSign 83 = .ok (.iconst 1, 1) := by decide +kernel
theorem dX0_addSign_84 : decode cX0_addSign 84 = .ok (.ireturn, 1) := by decide +kernel
theorem dX0_countOperands_0 : decode cX0_countOperands 0 = .ok (.iconst 0, 1) := by decide +kernel
theorem dX0_countOperands_1 : decode cX0_countOperands 1 = .ok (.istore_n 1, 1) := by decide +kernel
theorem dX0_countOperands_2 : decode cX0_countOperands 2 = .ok (.iload_n 1, 1) := by decide +kernel
theorem dX0_countOperands_3 : decode cX0_countOperands 3 = .ok (.aload_n 0, 1) := by decide +kernel
theorem dX0_countOperands_4 : decode cX0_countOperands 4 = .ok (.getfield 11, 3) := by decide +kernel
theorem dX0_countOperands_7 : decode cX0_countOperands 7 = .ok (.arraylength, 1) := by decide +kernel
theorem dX0_countOperands_8 : decode cX0_countOperands 8 = .ok (.if_icmp .ge 53, 3) := by decide +kernel
theorem dX0_countOperands_11 : decode cX0_countOperands 11 = .ok (.aload_n 0, 1) := by decide +kernel
theorem dX0_countOperands_12 : decode cX0_countOperands 12 = .ok (.getfield 11, 3) := by decide +kernel
theorem dX0_countOperands_15 : decode cX0_countOperands 15 = .ok (.iload_n 1, 1) := by decide +kernel
theorem dX0_countOperands_16 : decode cX0_countOperands 16 = .ok (.aaload, 1) := by decide +kernel
theorem dX0_countOperands_17 : decode cX0_countOperands 17 = .ok (.invokevirtual 37, 3) := by decide +kernel
theorem dX0_countOperands_20 : decode cX0_countOperands 20 = .ok (.istore_n 2, 1) := by decide +kernel
theorem dX0_countOperands_21 : decode cX0_countOperands 21 = .ok (.iload_n 2, 1) := by decide +kernel
theorem dX0_countOperands_22 : decode cX0_countOperands 22 = .ok (.bipush 16, 2) := by decide +kernel
theorem dX0_countOperands_24 : decode cX0_countOperands 24 = .ok (.if_icmp .gt 15, 3) := by decide +kernel
theorem dX0_countOperands_27 : decode cX0_countOperands 27 = .ok (.iload_n 2, 1) := by decide +kernel
theorem dX0_countOperands_28 : decode cX0_countOperands 28 = .ok (.ifCond .le 13, 3) := by decide +kernel
theorem dX0_countOperands_31 : decode cX0_countOperands 31 = .ok (.aload_n 0, 1) := by decide +kernel
theorem dX0_countOperands_32 : decode cX0_countOperands 32 = .ok (.getfield 31, 3) := by decide +kernel
theorem dX0_countOperands_35 : decode cX0_countOperands 35 = .ok (.iload_n 1, 1) := by decide +kernel
theorem dX0_countOperands_36 : decode cX0_countOperands 36 = .ok (.if_icmp .ge 5, 3) := by decide +kernel
theorem dX0_countOperands_39 : decode cX0_countOperands 39 = .ok (.iconst 0, 1) := by decide +kernel
theorem dX0_countOperands_40 : decode cX0_countOperands 40 = .ok (.ireturn, 1) := by decide +kernel
theorem dX0_countOperands_41 : decode cX0_countOperands 41 = .ok (.iload_n 2, 1) := by decide +kernel
theorem dX0_countOperands_42 : decode cX0_countOperands 42 = .ok (.ifCond .le 13, 3) := by decide +kernel
theorem dX0_countOperands_45 : decode cX0_countOperands 45 = .ok (.aload_n 0, 1) := by decide +kernel
theorem dX0_countOperands_46 : decode cX0_countOperands 46 = .ok (.dup, 1) := by decide +kernel
theorem dX0_countOperands_47 : decode cX0_countOperands 47 = .ok (.getfield 31, 3) := by decide +kernel
theorem dX0_countOperands_50 : decode cX0_countOperands 50 = .ok (.iconst 1, 1) := by decide +kernel
theorem dX0_countOperands_51 : decode cX0_countOperands 51 = .ok (.iadd, 1) := by decide +kernel
theorem dX0_countOperands_52 : decode cX0_countOperands 52 = .ok (.putfield 31, 3) := by decide +kernel
theorem dX0_countOperands_55 : decode cX0_countOperands 55 = .ok (.iinc 1 1, 3) := by decide +kernel
theorem dX0_countOperands_58 : decode cX0_countOperands 58 = .ok (.goto (-56), 3) := by decide +kernel
theorem dX0_countOperands_61 : decode cX0_countOperands 61 = .ok (.iconst 1, 1) := by decide +kernel
theorem dX0_countOperands_62 : decode cX0_countOperands 62 = .ok (.ireturn, 1) := by decide +kernel
theorem dX0_agreesWith_0 : decode cX0_agreesWith 0 = .ok (.iload_n 1, 1) := by decide +kernel
theorem dX0_agreesWith_1 : decode cX0_agreesWith 1 = .ok (.aload_n 0, 1) := by decide +kernel
theorem dX0_agreesWith_2 : decode cX0_agreesWith 2 = .ok (.getfield 25, 3) := by decide +kernel
theorem dX0_agreesWith_5 : decode cX0_agreesWith 5 = .ok (.iand, 1) := by decide +kernel
theorem dX0_agreesWith_6 : decode cX0_agreesWith 6 = .ok (.aload_n 0, 1) := by decide +kernel
theorem dX0_agreesWith_7 : decode cX0_agreesWith 7 = .ok (.getfield 28, 3) := by decide +kernel
theorem dX0_agreesWith_10 : decode cX0_agreesWith 10 = .ok (.if_icmp .ne 7, 3) := by decide +kernel
theorem dX0_agreesWith_13 : decode cX0_agreesWith 13 = .ok (.iconst 1, 1) := by decide +kernel
theorem dX0_agreesWith_14 : decode cX0_agreesWith 14 = .ok (.goto 4, 3) := by decide +kernel
theorem dX0_agreesWith_17 : decode cX0_agreesWith 17 = .ok (.iconst 0, 1) := by decide +kernel
theorem dX0_agreesWith_18 : decode cX0_agreesWith 18 = .ok (.ireturn, 1) := by decide +kernel
theorem dX0_isNarrowerThan_0 : decode cX0_isNarrowerThan 0 = .ok (.aload_n 1, 1) := by decide +kernel
theorem dX0_isNarrowerThan_1 : decode cX0_isNarrowerThan 1 = .ok (.getfield 25, 3) := by decide +kernel
theorem dX0_isNarrowerThan_4 : decode cX0_isNarrowerThan 4 = .ok (.aload_n 0, 1) := by decide +kernel
theorem dX0_isNarrowerThan_5 : decode cX0_isNarrowerThan 5 = .ok (.getfield 25, 3) := by decide +kernel
theorem dX0_isNarrowerThan_8 : decode cX0_isNarrowerThan 8 = .ok (.iconst (-1), 1) := by decide +kernel
theorem dX0_isNarrowerThan_9 : decode cX0_isNarrowerThan 9 = .ok (.ixor, 1) := by decide +kernel
theorem dX0_isNarrowerThan_10 : decode cX0_isNarrowerThan 10 = .ok (.iand, 1) := by decide +kernel
theorem dX0_isNarrowerThan_11 : decode cX0_isNarrowerThan 11 = .ok (.ifCond .ne 14, 3) := by decide +kernel
theorem dX0_isNarrowerThan_14 : decode cX0_isNarrowerThan 14 = .ok (.aload_n 1, 1) := by decide +kernel
theorem dX0_isNarrowerThan_15 : decode cX0_isNarrowerThan 15 = .ok (.aload_n 0, 1) := by decide +kernel
theorem dX0_isNarrowerThan_16 : decode cX0_isNarrowerThan 16 = .ok (.getfield 28, 3) := by decide +kernel
theorem dX0_isNarrowerThan_19 : decode cX0_isNarrowerThan 19 = .ok (.invokevirtual 41, 3) := by decide +kernel
theorem dX0_isNarrowerThan_22 : decode cX0_isNarrowerThan 22 = .ok (.ifCond .ne 5, 3) := by decide +kernel
theorem dX0_isNarrowerThan_25 : decode cX0_isNarrowerThan 25 = .ok (.iconst 0, 1) := by decide +kernel
theorem dX0_isNarrowerThan_26 : decode cX0_isNarrowerThan 26 = .ok (.ireturn, 1) := by decide +kernel
theorem dX0_isNarrowerThan_27 : decode cX0_isNarrowerThan 27 = .ok (.aload_n 0, 1) := by decide +kernel
theorem dX0_isNarrowerThan_28 : decode cX0_isNarrowerThan 28 = .ok (.getfield 25, 3) := by decide +kernel
theorem dX0_isNarrowerThan_31 : decode cX0_isNarrowerThan 31 = .ok (.invokestatic 45, 3) := by decide +kernel
theorem dX0_isNarrowerThan_34 : decode cX0_isNarrowerThan 34 = .ok (.aload_n 1, 1) := by decide +kernel
theorem dX0_isNarrowerThan_35 : decode cX0_isNarrowerThan 35 = .ok (.getfield 25, 3) := by decide +kernel
theorem dX0_isNarrowerThan_38 : decode cX0_isNarrowerThan 38 = .ok (.invokestatic 45, 3) := by decide +kernel
theorem dX0_isNarrowerThan_41 : decode cX0_isNarrowerThan 41 = .ok (.isub, 1) := by decide +kernel
theorem dX0_isNarrowerThan_42 : decode cX0_isNarrowerThan 42 = .ok (.istore_n 2, 1) := by decide +kernel
theorem dX0_isNarrowerThan_43 : decode cX0_isNarrowerThan 43 = .ok (.iload_n 2, 1) := by decide +kernel
theorem dX0_isNarrowerThan_44 : decode cX0_isNarrowerThan 44 = .ok (.ifCond .gt 18, 3) := by decide +kernel
theorem dX0_isNarrowerThan_47 : decode cX0_isNarrowerThan 47 = .ok (.iload_n 2, 1) := by decide +kernel
theorem dX0_isNarrowerThan_48 : decode cX0_isNarrowerThan 48 = .ok (.ifCond .ne 18, 3) := by decide +kernel
theorem dX0_isNarrowerThan_51 : decode cX0_isNarrowerThan 51 = .ok (.aload_n 0, 1) := by decide +kernel
theorem dX0_isNarrowerThan_52 : decode cX0_isNarrowerThan 52 = .ok (.getfield 22, 3) := by decide +kernel
theorem dX0_isNarrowerThan_55 : decode cX0_isNarrowerThan 55 = .ok (.aload_n 1, 1) := by decide +kernel
theorem dX0_isNarrowerThan_56 : decode cX0_isNarrowerThan 56 = .ok (.getfield 22, 3) := by decide +kernel
theorem dX0_isNarrowerThan_59 : decode cX0_isNarrowerThan 59 = .ok (.if_icmp .le 7, 3) := by decide +kernel
theorem dX0_isNarrowerThan_62 : decode cX0_isNarrowerThan 62 = .ok (.iconst 1, 1) := by decide +kernel
theorem dX0_isNarrowerThan_63 : decode cX0_isNarrowerThan 63 = .ok (.goto 4, 3) := by decide +kernel
theorem dX0_isNarrowerThan_66 : decode cX0_isNarrowerThan 66 = .ok (.iconst 0, 1) := by decide +kernel
theorem dX0_isNarrowerThan_67 : decode cX0_isNarrowerThan 67 = .ok (.ireturn, 1) := by decide +kernel
theorem dX0_clashesWith_0 : decode cX0_clashesWith 0 = .ok (.aload_n 0, 1) := by decide +kernel
theorem dX0_clashesWith_1 : decode cX0_clashesWith 1 = .ok (.getfield 25, 3) := by decide +kernel
theorem dX0_clashesWith_4 : decode cX0_clashesWith 4 = .ok (.aload_n 1, 1) := by decide +kernel
theorem dX0_clashesWith_5 : decode cX0_clashesWith 5 = .ok (.getfield 25, 3) := by decide +kernel
theorem dX0_clashesWith_8 : decode cX0_clashesWith 8 = .ok (.iand, 1) := by decide +kernel
theorem dX0_clashesWith_9 : decode cX0_clashesWith 9 = .ok (.aload_n 0, 1) := by decide +kernel
theorem dX0_clashesWith_10 : decode cX0_clashesWith 10 = .ok (.getfield 28, 3) := by decide +kernel
theorem dX0_clashesWith_13 : decode cX0_clashesWith 13 = .ok (.aload_n 1, 1) := by decide +kernel
theorem dX0_clashesWith_14 : decode cX0_clashesWith 14 = .ok (.getfield 28, 3) := by decide +kernel
theorem dX0_clashesWith_17 : decode cX0_clashesWith 17 = .ok (.ixor, 1) := by decide +kernel
theorem dX0_clashesWith_18 : decode cX0_clashesWith 18 = .ok (.iand, 1) := by decide +kernel
theorem dX0_clashesWith_19 : decode cX0_clashesWith 19 = .ok (.ifCond .eq 7, 3) := by decide +kernel
theorem dX0_clashesWith_22 : decode cX0_clashesWith 22 = .ok (.iconst 1, 1) := by decide +kernel
theorem dX0_clashesWith_23 : decode cX0_clashesWith 23 = .ok (.goto 4, 3) := by decide +kernel
theorem dX0_clashesWith_26 : decode cX0_clashesWith 26 = .ok (.iconst 0, 1) := by decide +kernel
theorem dX0_clashesWith_27 : decode cX0_clashesWith 27 = .ok (.istore_n 2, 1) := by decide +kernel
theorem dX0_clashesWith_28 : decode cX0_clashesWith 28 = .ok (.iload_n 2, 1) := by decide +kernel
theorem dX0_clashesWith_29 : decode cX0_clashesWith 29 = .ok (.ifCond .ne 23, 3) := by decide +kernel
theorem dX0_clashesWith_32 : decode cX0_clashesWith 32 = .ok (.aload_n 0, 1) := by decide +kernel
theorem dX0_clashesWith_33 : decode cX0_clashesWith 33 = .ok (.aload_n 1, 1) := by decide +kernel
theorem dX0_clashesWith_34 : decode cX0_clashesWith 34 = .ok (.invokevirtual 51, 3) := by decide +kernel
theorem dX0_clashesWith_37 : decode cX0_clashesWith 37 = .ok (.ifCond .ne 15, 3) := by decide +kernel
theorem dX0_clashesWith_40 : decode cX0_clashesWith 40 = .ok (.aload_n 1, 1) := by decide +kernel
theorem dX0_clashesWith_41 : decode cX0_clashesWith 41 = .ok (.aload_n 0, 1) := by decide +kernel
theorem dX0_clashesWith_42 : decode cX0_clashesWith 42 = .ok (.invokevirtual 51, 3) := by decide +kernel
theorem dX0_clashesWith_45 : decode cX0_clashesWith 45 = .ok (.ifCond .ne 7, 3) := by decide +kernel
theorem dX0_clashesWith_48 : decode cX0_clashesWith 48 = .ok (.iconst 1, 1) := by decide +kernel
theorem dX0_clashesWith_49 : decode cX0_clashesWith 49 = .ok (.goto 4, 3) := by decide +kernel
theorem dX0_clashesWith_52 : decode cX0_clashesWith 52 = .ok (.iconst 0, 1) := by decide +kernel
theorem dX0_clashesWith_53 : decode cX0_clashesWith 53 = .ok (.ireturn, 1) := by decide +kernel
theorem dX1_init_0 : decode cX1_init 0 = .ok (.aload_n 0, 1) := by decide +kernel
theorem dX1_init_1 : decode cX1_init 1 = .ok (.invokespecial 3, 3) := by decide +kernel
theorem dX1_init_4 : decode cX1_init 4 = .ok (.aload_n 0, 1) := by decide +kernel
theorem dX1_init_5 : decode cX1_init 5 = .ok (.iconst 3, 1) := by decide +kernel
theorem dX1_init_6 : decode cX1_init 6 = .ok (.newarray .int, 2) := by decide +kernel
theorem dX1_init_8 : decode cX1_init 8 = .ok (.putfield 9, 3) := by decide +kernel
theorem dX1_init_11 : decode cX1_init 11 = .ok (.aload_n 0, 1) := by decide +kernel
theorem dX1_init_12 : decode cX1_init 12 = .ok (.iconst 3, 1) := by decide +kernel
theorem dX1_init_13 : decode cX1_init 13 = .ok (.newarray .int, 2) := by decide +kernel
theorem dX1_init_15 : decode cX1_init 15 = .ok (.putfield 15, 3) := by decide +kernel
theorem dX1_init_18 : decode cX1_init 18 = .ok (.return_, 1) := by decide +kernel
theorem dX2_init_0 : decode cX2_init 0 = .ok (.aload_n 0, 1) := by decide +kernel
theorem dX2_init_1 : decode cX2_init 1 = .ok (.invokespecial 3, 3) := by decide +kernel
theorem dX2_init_4 : decode cX2_init 4 = .ok (.aload_n 0, 1) := by decide +kernel
theorem dX2_init_5 : decode cX2_init 5 = .ok (.iconst 0, 1) := by decide +kernel
theorem dX2_init_6 : decode cX2_init 6 = .ok (.putfield 9, 3) := by decide +kernel
theorem dX2_init_9 : decode cX2_init 9 = .ok (.aload_n 0, 1) := by decide +kernel
theorem dX2_init_10 : decode cX2_init 10 = .ok (.iconst 1, 1) := by decide +kernel
theorem dX2_init_11 : decode cX2_init 11 = .ok (.putfield 15, 3) := by decide +kernel
theorem dX2_init_14 : decode cX2_init 14 = .ok (.return_, 1) := by decide +kernel
theorem dX2_width_0 : decode cX2_width 0 = .ok (.aload_n 0, 1) := by decide +kernel
theorem dX2_width_1 : decode cX2_width 1 = .ok (.getfield 18, 3) := by decide +kernel
theorem dX2_width_4 : decode cX2_width 4 = .ok (.invokestatic 21, 3) := by decide +kernel
theorem dX2_width_7 : decode cX2_width 7 = .ok (.ireturn, 1) := by decide +kernel
theorem dX2_base_0 : decode cX2_base 0 = .ok (.aload_n 0, 1) := by decide +kernel
theorem dX2_base_1 : decode cX2_base 1 = .ok (.getfield 9, 3) := by decide +kernel
theorem dX2_base_4 : decode cX2_base 4 = .ok (.iconst 2, 1) := by decide +kernel
theorem dX2_base_5 : decode cX2_base 5 = .ok (.if_icmp .ne 12, 3) := by decide +kernel
theorem dX2_base_8 : decode cX2_base 8 = .ok (.aload_n 0, 1) := by decide +kernel
theorem dX2_base_9 : decode cX2_base 9 = .ok (.getfield 27, 3) := by decide +kernel
theorem dX2_base_12 : decode cX2_base 12 = .ok (.iload_n 1, 1) := by decide +kernel
theorem dX2_base_13 : decode cX2_base 13 = .ok (.iadd, 1) := by decide +kernel
theorem dX2_base_14 : decode cX2_base 14 = .ok (.goto 7, 3) := by decide +kernel
theorem dX2_base_17 : decode cX2_base 17 = .ok (.aload_n 0, 1) := by decide +kernel
theorem dX2_base_18 : decode cX2_base 18 = .ok (.getfield 27, 3) := by decide +kernel
theorem dX2_base_21 : decode cX2_base 21 = .ok (.ireturn, 1) := by decide +kernel
theorem dX2_lowest_0 : decode cX2_lowest 0 = .ok (.aload_n 0, 1) := by decide +kernel
theorem dX2_lowest_1 : decode cX2_lowest 1 = .ok (.getfield 9, 3) := by decide +kernel
theorem dX2_lowest_4 : decode cX2_lowest 4 = .ok (.ifCond .ne 7, 3) := by decide +kernel
theorem dX2_lowest_7 : decode cX2_lowest 7 = .ok (.iconst 0, 1) := by decide +kernel
theorem dX2_lowest_8 : decode cX2_lowest 8 = .ok (.goto 12, 3) := by decide +kernel
theorem dX2_lowest_11 : decode cX2_lowest 11 = .ok (.iconst 1, 1) := by decide +kernel
theorem dX2_lowest_12 : decode cX2_lowest 12 = .ok (.aload_n 0, 1) := by decide +kernel
theorem dX2_lowest_13 : decode cX2_lowest 13 = .ok (.invokevirtual 30, 3) := by decide +kernel
theorem dX2_lowest_16 : decode cX2_lowest 16 = .ok (.ishl, 1) := by decide +kernel
theorem dX2_lowest_17 : decode cX2_lowest 17 = .ok (.iconst 1, 1) := by decide +kernel
theorem dX2_lowest_18 : decode cX2_lowest 18 = .ok (.ishr, 1) := by decide +kernel
theorem dX2_lowest_19 : decode cX2_lowest 19 = .ok (.ineg, 1) := by decide +kernel
theorem dX2_lowest_20 : decode cX2_lowest 20 = .ok (.ireturn, 1) := by decide +kernel
theorem dX2_highest_0 : decode cX2_highest 0 = .ok (.aload_n 0, 1) := by decide +kernel
theorem dX2_highest_1 : decode cX2_highest 1 = .ok (.invokevirtual 34, 3) := by decide +kernel
theorem dX2_highest_4 : decode cX2_highest 4 = .ok (.iconst 1, 1) := by decide +kernel
theorem dX2_highest_5 : decode cX2_highest 5 = .ok (.aload_n 0, 1) := by decide +kernel
theorem dX2_highest_6 : decode cX2_highest 6 = .ok (.invokevirtual 30, 3) := by decide +kernel
theorem dX2_highest_9 : decode cX2_highest 9 = .ok (.ishl, 1) := by decide +kernel
theorem dX2_highest_10 : decode cX2_highest 10 = .ok (.iadd, 1) := by decide +kernel
theorem dX2_highest_11 : decode cX2_highest 11 = .ok (.iconst 1, 1) := by decide +kernel
theorem dX2_highest_12 : decode cX2_highest 12 = .ok (.isub, 1) := by decide +kernel
theorem dX2_highest_13 : decode cX2_highest 13 = .ok (.ireturn, 1) := by decide +kernel
theorem dX2_valueIn_0 : decode cX2_valueIn 0 = .ok (.iconst 0, 1) := by decide +kernel
theorem dX2_valueIn_1 : decode cX2_valueIn 1 = .ok (.istore_n 3, 1) := by decide +kernel
theorem dX2_valueIn_2 : decode cX2_valueIn 2 = .ok (.bipush 23, 2) := by decide +kernel
theorem dX2_valueIn_4 : decode cX2_valueIn 4 = .ok (.istore 4, 2) := by decide +kernel
theorem dX2_valueIn_6 : decode cX2_valueIn 6 = .ok (.iload 4, 2) := by decide +kernel
theorem dX2_valueIn_8 : decode cX2_valueIn 8 = .ok (.ifCond .lt 33, 3) := by decide +kernel
theorem dX2_valueIn_11 : decode cX2_valueIn 11 = .ok (.aload_n 0, 1) := by decide +kernel
theorem dX2_valueIn_12 : decode cX2_valueIn 12 = .ok (.getfield 18, 3) := by decide +kernel
theorem dX2_valueIn_15 : decode cX2_valueIn 15 = .ok (.iload 4, 2) := by decide +kernel
theorem dX2_valueIn_17 : decode cX2_valueIn 17 = .ok (.ishr, 1) := by decide +kernel
theorem dX2_valueIn_18 : decode cX2_valueIn 18 = .ok (.iconst 1, 1) := by decide +kernel
theorem dX2_valueIn_19 : decode cX2_valueIn 19 = .ok (.iand, 1) := by decide +kernel
theorem dX2_valueIn_20 : decode cX2_valueIn 20 = .ok (.iconst 1, 1) := by decide +kernel
theorem dX2_valueIn_21 : decode cX2_valueIn 21 = .ok (.if_icmp .ne 14, 3) := by decide +kernel
theorem dX2_valueIn_24 : decode cX2_valueIn 24 = .ok (.iload_n 3, 1) := by decide +kernel
theorem dX2_valueIn_25 : decode cX2_valueIn 25 = .ok (.iconst 1, 1) := by decide +kernel
theorem dX2_valueIn_26 : decode cX2_valueIn 26 = .ok (.ishl, 1) := by decide +kernel
theorem dX2_valueIn_27 : decode cX2_valueIn 27 = .ok (.iload_n 1, 1) := by decide +kernel
theorem dX2_valueIn_28 : decode cX2_valueIn 28 = .ok (.iload 4, 2) := by decide +kernel
theorem dX2_valueIn_30 : decode cX2_valueIn 30 = .ok (.ishr, 1) := by decide +kernel
theorem dX2_valueIn_31 : decode cX2_valueIn 31 = .ok (.iconst 1, 1) := by decide +kernel
theorem dX2_valueIn_32 : decode cX2_valueIn 32 = .ok (.iand, 1) := by decide +kernel
theorem dX2_valueIn_33 : decode cX2_valueIn 33 = .ok (.ior, 1) := by decide +kernel
theorem dX2_valueIn_34 : decode cX2_valueIn 34 = .ok (.istore_n 3, 1) := by decide +kernel
theorem dX2_valueIn_35 : decode cX2_valueIn 35 = .ok (.iinc 4 (-1), 3) := by decide +kernel
theorem dX2_valueIn_38 : decode cX2_valueIn 38 = .ok (.goto (-32), 3) := by decide +kernel
theorem dX2_valueIn_41 : decode cX2_valueIn 41 = .ok (.iload_n 3, 1) := by decide +kernel
theorem dX2_valueIn_42 : decode cX2_valueIn 42 = .ok (.aload_n 0, 1) := by decide +kernel
theorem dX2_valueIn_43 : decode cX2_valueIn 43 = .ok (.invokevirtual 37, 3) := by decide +kernel
theorem dX2_valueIn_46 : decode cX2_valueIn 46 = .ok (.if_icmp .le 12, 3) := by decide +kernel
theorem dX2_valueIn_49 : decode cX2_valueIn 49 = .ok (.iload_n 3, 1) := by decide +kernel
theorem dX2_valueIn_50 : decode cX2_valueIn 50 = .ok (.iconst 1, 1) := by decide +kernel
theorem dX2_valueIn_51 : decode cX2_valueIn 51 = .ok (.aload_n 0, 1) := by decide +kernel
theorem dX2_valueIn_52 : decode cX2_valueIn 52 = .ok (.invokevirtual 30, 3) := by decide +kernel
theorem dX2_valueIn_55 : decode cX2_valueIn 55 = .ok (.ishl, 1) := by decide +kernel
theorem dX2_valueIn_56 : decode cX2_valueIn 56 = .ok (.isub, 1) := by decide +kernel
theorem dX2_valueIn_57 : decode cX2_valueIn 57 = .ok (.istore_n 3, 1) := by decide +kernel
theorem dX2_valueIn_58 : decode cX2_valueIn 58 = .ok (.iload_n 3, 1) := by decide +kernel
theorem dX2_valueIn_59 : decode cX2_valueIn 59 = .ok (.aload_n 0, 1) := by decide +kernel
theorem dX2_valueIn_60 : decode cX2_valueIn 60 = .ok (.getfield 15, 3) := by decide +kernel
theorem dX2_valueIn_63 : decode cX2_valueIn 63 = .ok (.imul, 1) := by decide +kernel
theorem dX2_valueIn_64 : decode cX2_valueIn 64 = .ok (.aload_n 0, 1) := by decide +kernel
theorem dX2_valueIn_65 : decode cX2_valueIn 65 = .ok (.iload_n 2, 1) := by decide +kernel
theorem dX2_valueIn_66 : decode cX2_valueIn 66 = .ok (.invokevirtual 40, 3) := by decide +kernel
theorem dX2_valueIn_69 : decode cX2_valueIn 69 = .ok (.iadd, 1) := by decide +kernel
theorem dX2_valueIn_70 : decode cX2_valueIn 70 = .ok (.ireturn, 1) := by decide +kernel
theorem dX2_reaches_0 : decode cX2_reaches 0 = .ok (.iload_n 1, 1) := by decide +kernel
theorem dX2_reaches_1 : decode cX2_reaches 1 = .ok (.aload_n 0, 1) := by decide +kernel
theorem dX2_reaches_2 : decode cX2_reaches 2 = .ok (.iload_n 2, 1) := by decide +kernel
theorem dX2_reaches_3 : decode cX2_reaches 3 = .ok (.invokevirtual 40, 3) := by decide +kernel
theorem dX2_reaches_6 : decode cX2_reaches 6 = .ok (.isub, 1) := by decide +kernel
theorem dX2_reaches_7 : decode cX2_reaches 7 = .ok (.istore_n 3, 1) := by decide +kernel
theorem dX2_reaches_8 : decode cX2_reaches 8 = .ok (.aload_n 0, 1) := by decide +kernel
theorem dX2_reaches_9 : decode cX2_reaches 9 = .ok (.getfield 15, 3) := by decide +kernel
theorem dX2_reaches_12 : decode cX2_reaches 12 = .ok (.iconst 1, 1) := by decide +kernel
theorem dX2_reaches_13 : decode cX2_reaches 13 = .ok (.if_icmp .lt 12, 3) := by decide +kernel
theorem dX2_reaches_16 : decode cX2_reaches 16 = .ok (.iload_n 3, 1) := by decide +kernel
theorem dX2_reaches_17 : decode cX2_reaches 17 = .ok (.aload_n 0, 1) := by decide +kernel
theorem dX2_reaches_18 : decode cX2_reaches 18 = .ok (.getfield 15, 3) := by decide +kernel
theorem dX2_reaches_21 : decode cX2_reaches 21 = .ok (.irem, 1) := by decide +kernel
theorem dX2_reaches_22 : decode cX2_reaches 22 = .ok (.ifCond .eq 5, 3) := by decide +kernel
theorem dX2_reaches_25 : decode cX2_reaches 25 = .ok (.iconst 0, 1) := by decide +kernel
theorem dX2_reaches_26 : decode cX2_reaches 26 = .ok (.ireturn, 1) := by decide +kernel
theorem dX2_reaches_27 : decode cX2_reaches 27 = .ok (.iload_n 3, 1) := by decide +kernel
theorem dX2_reaches_28 : decode cX2_reaches 28 = .ok (.aload_n 0, 1) := by decide +kernel
theorem dX2_reaches_29 : decode cX2_reaches 29 = .ok (.getfield 15, 3) := by decide +kernel
theorem dX2_reaches_32 : decode cX2_reaches 32 = .ok (.idiv, 1) := by decide +kernel
theorem dX2_reaches_33 : decode cX2_reaches 33 = .ok (.istore 4, 2) := by decide +kernel
theorem dX2_reaches_35 : decode cX2_reaches 35 = .ok (.iload 4, 2) := by decide +kernel
theorem dX2_reaches_37 : decode cX2_reaches 37 = .ok (.aload_n 0, 1) := by decide +kernel
theorem dX2_reaches_38 : decode cX2_reaches 38 = .ok (.invokevirtual 34, 3) := by decide +kernel
theorem dX2_reaches_41 : decode cX2_reaches 41 = .ok (.if_icmp .lt 16, 3) := by decide +kernel
theorem dX2_reaches_44 : decode cX2_reaches 44 = .ok (.iload 4, 2) := by decide +kernel
theorem dX2_reaches_46 : decode cX2_reaches 46 = .ok (.aload_n 0, 1) := by decide +kernel
theorem dX2_reaches_47 : decode cX2_reaches 47 = .ok (.invokevirtual 37, 3) := by decide +kernel
theorem dX2_reaches_50 : decode cX2_reaches 50 = .ok (.if_icmp .gt 7, 3) := by decide +kernel
theorem dX2_reaches_53 : decode cX2_reaches 53 = .ok (.iconst 1, 1) := by decide +kernel
theorem dX2_reaches_54 : decode cX2_reaches 54 = .ok (.goto 4, 3) := by decide +kernel
theorem dX2_reaches_57 : decode cX2_reaches 57 = .ok (.iconst 0, 1) := by decide +kernel
theorem dX2_reaches_58 : decode cX2_reaches 58 = .ok (.ireturn, 1) := by decide +kernel
theorem dX2_bitsFor_0 : decode cX2_bitsFor 0 = .ok (.aload_n 0, 1) := by decide +kernel
theorem dX2_bitsFor_1 : decode cX2_bitsFor 1 = .ok (.getfield 15, 3) := by decide +kernel
theorem dX2_bitsFor_4 : decode cX2_bitsFor 4 = .ok (.iconst 1, 1) := by decide +kernel
theorem dX2_bitsFor_5 : decode cX2_bitsFor 5 = .ok (.if_icmp .ge 7, 3) := by decide +kernel
theorem dX2_bitsFor_8 : decode cX2_bitsFor 8 = .ok (.iconst 0, 1) := by decide +kernel
theorem dX2_bitsFor_9 : decode cX2_bitsFor 9 = .ok (.goto 15, 3) := by decide +kernel
theorem dX2_bitsFor_12 : decode cX2_bitsFor 12 = .ok (.iload_n 1, 1) := by decide +kernel
theorem dX2_bitsFor_13 : decode cX2_bitsFor 13 = .ok (.aload_n 0, 1) := by decide +kernel
theorem dX2_bitsFor_14 : decode cX2_bitsFor 14 = .ok (.iload_n 2, 1) := by decide +kernel
theorem dX2_bitsFor_15 : decode cX2_bitsFor 15 = .ok (.invokevirtual 40, 3) := by decide +kernel
theorem dX2_bitsFor_18 : decode cX2_bitsFor 18 = .ok (.isub, 1) := by decide +kernel
theorem dX2_bitsFor_19 : decode cX2_bitsFor 19 = .ok (.aload_n 0, 1) := by decide +kernel
theorem dX2_bitsFor_20 : decode cX2_bitsFor 20 = .ok (.getfield 15, 3) := by decide +kernel
theorem dX2_bitsFor_23 : decode cX2_bitsFor 23 = .ok (.idiv, 1) := by decide +kernel
theorem dX2_bitsFor_24 : decode cX2_bitsFor 24 = .ok (.istore_n 3, 1) := by decide +kernel
theorem dX2_bitsFor_25 : decode cX2_bitsFor 25 = .ok (.iconst 0, 1) := by decide +kernel
theorem dX2_bitsFor_26 : decode cX2_bitsFor 26 = .ok (.istore 4, 2) := by decide +kernel
theorem dX2_bitsFor_28 : decode cX2_bitsFor 28 = .ok (.iconst 0, 1) := by decide +kernel
theorem dX2_bitsFor_29 : decode cX2_bitsFor 29 = .ok (.istore 5, 2) := by decide +kernel
theorem dX2_bitsFor_31 : decode cX2_bitsFor 31 = .ok (.iload 5, 2) := by decide +kernel
theorem dX2_bitsFor_33 : decode cX2_bitsFor 33 = .ok (.bipush 24, 2) := by decide +kernel
theorem dX2_bitsFor_35 : decode cX2_bitsFor 35 = .ok (.if_icmp .ge 37, 3) := by decide +kernel
theorem dX2_bitsFor_38 : decode cX2_bitsFor 38 = .ok (.aload_n 0, 1) := by decide +kernel
theorem dX2_bitsFor_39 : decode cX2_bitsFor 39 = .ok (.getfield 18, 3) := by decide +kernel
theorem dX2_bitsFor_42 : decode cX2_bitsFor 42 = .ok (.iload 5, 2) := by decide +kernel
theorem dX2_bitsFor_44 : decode cX2_bitsFor 44 = .ok (.ishr, 1) := by decide +kernel
theorem dX2_bitsFor_45 : decode cX2_bitsFor 45 = .ok (.iconst 1, 1) := by decide +kernel
theorem dX2_bitsFor_46 : decode cX2_bitsFor 46 = .ok (.iand, 1) := by decide +kernel
theorem dX2_bitsFor_47 : decode cX2_bitsFor 47 = .ok (.iconst 1, 1) := by decide +kernel
theorem dX2_bitsFor_48 : decode cX2_bitsFor 48 = .ok (.if_icmp .ne 18, 3) := by decide +kernel
theorem dX2_bitsFor_51 : decode cX2_bitsFor 51 = .ok (.iload 4, 2) := by decide +kernel
theorem dX2_bitsFor_53 : decode cX2_bitsFor 53 = .ok (.iload_n 3, 1) := by decide +kernel
theorem dX2_bitsFor_54 : decode cX2_bitsFor 54 = .ok (.iconst 1, 1) := by decide +kernel
theorem dX2_bitsFor_55 : decode cX2_bitsFor 55 = .ok (.iand, 1) := by decide +kernel
theorem dX2_bitsFor_56 : decode cX2_bitsFor 56 = .ok (.iload 5, 2) := by decide +kernel
theorem dX2_bitsFor_58 : decode cX2_bitsFor 58 = .ok (.ishl, 1) := by decide +kernel
theorem dX2_bitsFor_59 : decode cX2_bitsFor 59 = .ok (.ior, 1) := by decide +kernel
theorem dX2_bitsFor_60 : decode cX2_bitsFor 60 = .ok (.istore 4, 2) := by decide +kernel
theorem dX2_bitsFor_62 : decode cX2_bitsFor 62 = .ok (.iload_n 3, 1) := by decide +kernel
theorem dX2_bitsFor_63 : decode cX2_bitsFor 63 = .ok (.iconst 1, 1) := by decide +kernel
theorem dX2_bitsFor_64 : decode cX2_bitsFor 64 = .ok (.ishr, 1) := by decide +kernel
theorem dX2_bitsFor_65 : decode cX2_bitsFor 65 = .ok (.istore_n 3, 1) := by decide +kernel
theorem dX2_bitsFor_66 : decode cX2_bitsFor 66 = .ok (.iinc 5 1, 3) := by decide +kernel
theorem dX2_bitsFor_69 : decode cX2_bitsFor 69 = .ok (.goto (-38), 3) := by decide +kernel
theorem dX2_bitsFor_72 : decode cX2_bitsFor 72 = .ok (.iload 4, 2) := by decide +kernel
theorem dX2_bitsFor_74 : decode cX2_bitsFor 74 = .ok (.ireturn, 1) := by decide +kernel
theorem dX3_init_0 : decode cX3_init 0 = .ok (.aload_n 0, 1) := by decide +kernel
theorem dX3_init_1 : decode cX3_init 1 = .ok (.invokespecial 3, 3) := by decide +kernel
theorem dX3_init_4 : decode cX3_init 4 = .ok (.aload_n 0, 1) := by decide +kernel
theorem dX3_init_5 : decode cX3_init 5 = .ok (.bipush 40, 2) := by decide +kernel
theorem dX3_init_7 : decode cX3_init 7 = .ok (.newarray .char, 2) := by decide +kernel
theorem dX3_init_9 : decode cX3_init 9 = .ok (.putfield 9, 3) := by decide +kernel
theorem dX3_init_12 : decode cX3_init 12 = .ok (.return_, 1) := by decide +kernel
theorem dX3_clear_0 : decode cX3_clear 0 = .ok (.aload_n 0, 1) := by decide +kernel
theorem dX3_clear_1 : decode cX3_clear 1 = .ok (.iconst 0, 1) := by decide +kernel
theorem dX3_clear_2 : decode cX3_clear 2 = .ok (.putfield 15, 3) := by decide +kernel
theorem dX3_clear_5 : decode cX3_clear 5 = .ok (.aload_n 0, 1) := by decide +kernel
theorem dX3_clear_6 : decode cX3_clear 6 = .ok (.iconst 0, 1) := by decide +kernel
theorem dX3_clear_7 : decode cX3_clear 7 = .ok (.putfield 19, 3) := by decide +kernel
theorem dX3_clear_10 : decode cX3_clear 10 = .ok (.return_, 1) := by decide +kernel
theorem dX3_add_0 : decode cX3_add 0 = .ok (.aload_n 0, 1) := by decide +kernel
theorem dX3_add_1 : decode cX3_add 1 = .ok (.getfield 15, 3) := by decide +kernel
theorem dX3_add_4 : decode cX3_add 4 = .ok (.aload_n 0, 1) := by decide +kernel
theorem dX3_add_5 : decode cX3_add 5 = .ok (.getfield 9, 3) := by decide +kernel
theorem dX3_add_8 : decode cX3_add 8 = .ok (.arraylength, 1) := by decide +kernel
theorem dX3_add_9 : decode cX3_add 9 = .ok (.if_icmp .lt 5, 3) := by decide +kernel
theorem dX3_add_12 : decode cX3_add 12 = .ok (.iconst 0, 1) := by decide +kernel
theorem dX3_add_13 : decode cX3_add 13 = .ok (.ireturn, 1) := by decide +kernel
theorem dX3_add_14 : decode cX3_add 14 = .ok (.aload_n 0, 1) := by decide +kernel
theorem dX3_add_15 : decode cX3_add 15 = .ok (.getfield 9, 3) := by decide +kernel
theorem dX3_add_18 : decode cX3_add 18 = .ok (.aload_n 0, 1) := by decide +kernel
theorem dX3_add_19 : decode cX3_add 19 = .ok (.getfield 15, 3) := by decide +kernel
theorem dX3_add_22 : decode cX3_add 22 = .ok (.iload_n 1, 1) := by decide +kernel
theorem dX3_add_23 : decode cX3_add 23 = .ok (.castore, 1) := by decide +kernel
theorem dX3_add_24 : decode cX3_add 24 = .ok (.aload_n 0, 1) := by decide +kernel
theorem dX3_add_25 : decode cX3_add 25 = .ok (.dup, 1) := by decide +kernel
theorem dX3_add_26 : decode cX3_add 26 = .ok (.getfield 15, 3) := by decide +kernel
theorem dX3_add_29 : decode cX3_add 29 = .ok (.iconst 1, 1) := by decide +kernel
theorem dX3_add_30 : decode cX3_add 30 = .ok (.iadd, 1) := by decide +kernel
theorem dX3_add_31 : decode cX3_add 31 = .ok (.putfield 15, 3) := by decide +kernel
theorem dX3_add_34 : decode cX3_add 34 = .ok (.iconst 1, 1) := by decide +kernel
theorem dX3_add_35 : decode cX3_add 35 = .ok (.ireturn, 1) := by decide +kernel
theorem dX3_addName_0 : decode cX3_addName 0 = .ok (.bipush 24, 2) := by decide +kernel
theorem dX3_addName_2 : decode cX3_addName 2 = .ok (.istore_n 2, 1) := by decide +kernel
theorem dX3_addName_3 : decode cX3_addName 3 = .ok (.iload_n 2, 1) := by decide +kernel
theorem dX3_addName_4 : decode cX3_addName 4 = .ok (.ifCond .lt 28, 3) := by decide +kernel
theorem dX3_addName_7 : decode cX3_addName 7 = .ok (.iload_n 1, 1) := by decide +kernel
theorem dX3_addName_8 : decode cX3_addName 8 = .ok (.iload_n 2, 1) := by decide +kernel
theorem dX3_addName_9 : decode cX3_addName 9 = .ok (.ishr, 1) := by decide +kernel
theorem dX3_addName_10 : decode cX3_addName 10 = .ok (.sipush 255, 3) := by decide +kernel
theorem dX3_addName_13 : decode cX3_addName 13 = .ok (.iand, 1) := by decide +kernel
theorem dX3_addName_14 : decode cX3_addName 14 = .ok (.istore_n 3, 1) := by decide +kernel
theorem dX3_addName_15 : decode cX3_addName 15 = .ok (.iload_n 3, 1) := by decide +kernel
theorem dX3_addName_16 : decode cX3_addName 16 = .ok (.ifCond .eq 10, 3) := by decide +kernel
theorem dX3_addName_19 : decode cX3_addName 19 = .ok (.aload_n 0, 1) := by decide +kernel
theorem dX3_addName_20 : decode cX3_addName 20 = .ok (.iload_n 3, 1) := by decide +kernel
theorem dX3_addName_21 : decode cX3_addName 21 = .ok (.i2c, 1) := by decide +kernel
theorem dX3_addName_22 : decode cX3_addName 22 = .ok (.invokevirtual 22, 3) := by decide +kernel
theorem dX3_addName_25 : decode cX3_addName 25 = .ok (.pop, 1) := by decide +kernel
theorem dX3_addName_26 : decode cX3_addName 26 = .ok (.iinc 2 (-8), 3) := by decide +kernel
theorem dX3_addName_29 : decode cX3_addName 29 = .ok (.goto (-26), 3) := by decide +kernel
theorem dX3_addName_32 : decode cX3_addName 32 = .ok (.return_, 1) := by decide +kernel
theorem dX3_addNumber_0 : decode cX3_addNumber 0 = .ok (.iload_n 1, 1) := by decide +kernel
theorem dX3_addNumber_1 : decode cX3_addNumber 1 = .ok (.ifCond .ge 10, 3) := by decide +kernel
theorem dX3_addNumber_4 : decode cX3_addNumber 4 = .ok (.aload_n 0, 1) := by decide +kernel
theorem dX3_addNumber_5 : decode cX3_addNumber 5 = .ok (.bipush 45, 2) := by decide +kernel
theorem dX3_addNumber_7 : decode cX3_addNumber 7 = .ok (.invokevirtual 22, 3) := by decide +kernel
theorem dX3_addNumber_10 : decode cX3_addNumber 10 = .ok (.pop, 1) := by decide +kernel
theorem dX3_addNumber_11 : decode cX3_addNumber 11 = .ok (.iload_n 1, 1) := by decide +kernel
theorem dX3_addNumber_12 : decode cX3_addNumber 12 = .ok (.ifCond .ge 8, 3) := by decide +kernel
theorem dX3_addNumber_15 : decode cX3_addNumber 15 = .ok (.iload_n 1, 1) := by decide +kernel
theorem dX3_addNumber_16 : decode cX3_addNumber 16 = .ok (.ineg, 1) := by decide +kernel
theorem dX3_addNumber_17 : decode cX3_addNumber 17 = .ok (.goto 4, 3) := by decide +kernel
theorem dX3_addNumber_20 : decode cX3_addNumber 20 = .ok (.iload_n 1, 1) := by decide +kernel
theorem dX3_addNumber_21 : decode cX3_addNumber 21 = .ok (.istore_n 2, 1) := by decide +kernel
theorem dX3_addNumber_22 : decode cX3_addNumber 22 = .ok (.ldc 26, 2) := by decide +kernel
theorem dX3_addNumber_24 : decode cX3_addNumber 24 = .ok (.istore_n 3, 1) := by decide +kernel
theorem dX3_addNumber_25 : decode cX3_addNumber 25 = .ok (.iload_n 3, 1) := by decide +kernel
theorem dX3_addNumber_26 : decode cX3_addNumber 26 = .ok (.iconst 1, 1) := by decide +kernel
theorem dX3_addNumber_27 : decode cX3_addNumber 27 = .ok (.if_icmp .lt 36, 3) := by decide +kernel
theorem dX3_addNumber_30 : decode cX3_addNumber 30 = .ok (.iload_n 2, 1) := by decide +kernel
theorem dX3_addNumber_31 : decode cX3_addNumber 31 = .ok (.iload_n 3, 1) := by decide +kernel
theorem dX3_addNumber_32 : decode cX3_addNumber 32 = .ok (.if_icmp .ge 8, 3) := by decide +kernel
theorem dX3_addNumber_35 : decode cX3_addNumber 35 = .ok (.iload_n 3, 1) := by decide +kernel
theorem dX3_addNumber_36 : decode cX3_addNumber 36 = .ok (.iconst 1, 1) := by decide +kernel
theorem dX3_addNumber_37 : decode cX3_addNumber 37 = .ok (.if_icmp .ne 18, 3) := by decide +kernel
theorem dX3_addNumber_40 : decode cX3_addNumber 40 = .ok (.aload_n 0, 1) := by decide +kernel
theorem dX3_addNumber_41 : decode cX3_addNumber 41 = .ok (.bipush 48, 2) := by decide +kernel
theorem dX3_addNumber_43 : decode cX3_addNumber 43 = .ok (.iload_n 2, 1) := by decide +kernel
theorem dX3_addNumber_44 : decode cX3_addNumber 44 = .ok (.iload_n 3, 1) := by decide +kernel
theorem dX3_addNumber_45 : decode cX3_addNumber 45 = .ok (.idiv, 1) := by decide +kernel
theorem dX3_addNumber_46 : decode cX3_addNumber 46 = .ok (.bipush 10, 2) := by decide +kernel
theorem dX3_addNumber_48 : decode cX3_addNumber 48 = .ok (.irem, 1) := by decide +kernel
theorem dX3_addNumber_49 : decode cX3_addNumber 49 = .ok (.iadd, 1) := by decide +kernel
theorem dX3_addNumber_50 : decode cX3_addNumber 50 = .ok (.i2c, 1) := by decide +kernel
theorem dX3_addNumber_51 : decode cX3_addNumber 51 = .ok (.invokevirtual 22, 3) := by decide +kernel
theorem dX3_addNumber_54 : decode cX3_addNumber 54 = .ok (.pop, 1) := by decide +kernel
theorem dX3_addNumber_55 : decode cX3_addNumber 55 = .ok (.iload_n 3, 1) := by decide +kernel
theorem dX3_addNumber_56 : decode cX3_addNumber 56 = .ok (.bipush 10, 2) := by decide +kernel
theorem dX3_addNumber_58 : decode cX3_addNumber 58 = .ok (.idiv, 1) := by decide +kernel
theorem dX3_addNumber_59 : decode cX3_addNumber 59 = .ok (.istore_n 3, 1) := by decide +kernel
theorem dX3_addNumber_60 : decode cX3_addNumber 60 = .ok (.goto (-35), 3) := by decide +kernel
theorem dX3_addNumber_63 : decode cX3_addNumber 63 = .ok (.return_, 1) := by decide +kernel
theorem dX3_at_0 : decode cX3_at 0 = .ok (.iload_n 1, 1) := by decide +kernel
theorem dX3_at_1 : decode cX3_at 1 = .ok (.ifCond .lt 20, 3) := by decide +kernel
theorem dX3_at_4 : decode cX3_at 4 = .ok (.iload_n 1, 1) := by decide +kernel
theorem dX3_at_5 : decode cX3_at 5 = .ok (.aload_n 0, 1) := by decide +kernel
theorem dX3_at_6 : decode cX3_at 6 = .ok (.getfield 15, 3) := by decide +kernel
theorem dX3_at_9 : decode cX3_at 9 = .ok (.if_icmp .ge 12, 3) := by decide +kernel
theorem dX3_at_12 : decode cX3_at 12 = .ok (.aload_n 0, 1) := by decide +kernel
theorem dX3_at_13 : decode cX3_at 13 = .ok (.getfield 9, 3) := by decide +kernel
theorem dX3_at_16 : decode cX3_at 16 = .ok (.iload_n 1, 1) := by decide +kernel
theorem dX3_at_17 : decode cX3_at 17 = .ok (.caload, 1) := by decide +kernel
theorem dX3_at_18 : decode cX3_at 18 = .ok (.goto 4, 3) := by decide +kernel
theorem dX3_at_21 : decode cX3_at 21 = .ok (.iconst 0, 1) := by decide +kernel
theorem dX3_at_22 : decode cX3_at 22 = .ok (.ireturn, 1) := by decide +kernel
theorem dX3_left_0 : decode cX3_left 0 = .ok (.aload_n 0, 1) := by decide +kernel
theorem dX3_left_1 : decode cX3_left 1 = .ok (.getfield 15, 3) := by decide +kernel
theorem dX3_left_4 : decode cX3_left 4 = .ok (.aload_n 0, 1) := by decide +kernel
theorem dX3_left_5 : decode cX3_left 5 = .ok (.getfield 19, 3) := by decide +kernel
theorem dX3_left_8 : decode cX3_left 8 = .ok (.isub, 1) := by decide +kernel
theorem dX3_left_9 : decode cX3_left 9 = .ok (.ireturn, 1) := by decide +kernel
theorem dX3_nextIsWithin_0 : decode cX3_nextIsWithin 0 = .ok (.aload_n 0, 1) := by decide +kernel
theorem dX3_nextIsWithin_1 : decode cX3_nextIsWithin 1 = .ok (.getfield 19, 3) := by decide +kernel
theorem dX3_nextIsWithin_4 : decode cX3_nextIsWithin 4 = .ok (.aload_n 0, 1) := by decide +kernel
theorem dX3_nextIsWithin_5 : decode cX3_nextIsWithin 5 = .ok (.getfield 15, 3) := by decide +kernel
theorem dX3_nextIsWithin_8 : decode cX3_nextIsWithin 8 = .ok (.if_icmp .ge 33, 3) := by decide +kernel
theorem dX3_nextIsWithin_11 : decode cX3_nextIsWithin 11 = .ok (.aload_n 0, 1) := by decide +kernel
theorem dX3_nextIsWithin_12 : decode cX3_nextIsWithin 12 = .ok (.getfield 9, 3) := by decide +kernel
theorem dX3_nextIsWithin_15 : decode cX3_nextIsWithin 15 = .ok (.aload_n 0, 1) := by decide +kernel
theorem dX3_nextIsWithin_16 : decode cX3_nextIsWithin 16 = .ok (.getfield 19, 3) := by decide +kernel
theorem dX3_nextIsWithin_19 : decode cX3_nextIsWithin 19 = .ok (.caload, 1) := by decide +kernel
theorem dX3_nextIsWithin_20 : decode cX3_nextIsWithin 20 = .ok (.iload_n 1, 1) := by decide +kernel
theorem dX3_nextIsWithin_21 : decode cX3_nextIsWithin 21 = .ok (.if_icmp .lt 20, 3) := by decide +kernel
theorem dX3_nextIsWithin_24 : decode cX3_nextIsWithin 24 = .ok (.aload_n 0, 1) := by decide +kernel
theorem dX3_nextIsWithin_25 : decode cX3_nextIsWithin 25 = .ok (.getfield 9, 3) := by decide +kernel
theorem dX3_nextIsWithin_28 : decode cX3_nextIsWithin 28 = .ok (.aload_n 0, 1) := by decide +kernel
theorem dX3_nextIsWithin_29 : decode cX3_nextIsWithin 29 = .ok (.getfield 19, 3) := by decide +kernel
theorem dX3_nextIsWithin_32 : decode cX3_nextIsWithin 32 = .ok (.caload, 1) := by decide +kernel
theorem dX3_nextIsWithin_33 : decode cX3_nextIsWithin 33 = .ok (.iload_n 2, 1) := by decide +kernel
theorem dX3_nextIsWithin_34 : decode cX3_nextIsWithin 34 = .ok (.if_icmp .gt 7, 3) := by decide +kernel
theorem dX3_nextIsWithin_37 : decode cX3_nextIsWithin 37 = .ok (.iconst 1, 1) := by decide +kernel
theorem dX3_nextIsWithin_38 : decode cX3_nextIsWithin 38 = .ok (.goto 4, 3) := by decide +kernel
theorem dX3_nextIsWithin_41 : decode cX3_nextIsWithin 41 = .ok (.iconst 0, 1) := by decide +kernel
theorem dX3_nextIsWithin_42 : decode cX3_nextIsWithin 42 = .ok (.ireturn, 1) := by decide +kernel
theorem dX3_take_0 : decode cX3_take 0 = .ok (.aload_n 0, 1) := by decide +kernel
theorem dX3_take_1 : decode cX3_take 1 = .ok (.iload_n 1, 1) := by decide +kernel
theorem dX3_take_2 : decode cX3_take 2 = .ok (.iload_n 1, 1) := by decide +kernel
theorem dX3_take_3 : decode cX3_take 3 = .ok (.invokevirtual 27, 3) := by decide +kernel
theorem dX3_take_6 : decode cX3_take 6 = .ok (.ifCond .ne 5, 3) := by decide +kernel
theorem dX3_take_9 : decode cX3_take 9 = .ok (.iconst 0, 1) := by decide +kernel
theorem dX3_take_10 : decode cX3_take 10 = .ok (.ireturn, 1) := by decide +kernel
theorem dX3_take_11 : decode cX3_take 11 = .ok (.aload_n 0, 1) := by decide +kernel
theorem dX3_take_12 : decode cX3_take 12 = .ok (.dup, 1) := by decide +kernel
theorem dX3_take_13 : decode cX3_take 13 = .ok (.getfield 19, 3) := by decide +kernel
theorem dX3_take_16 : decode cX3_take 16 = .ok (.iconst 1, 1) := by decide +kernel
theorem dX3_take_17 : decode cX3_take 17 = .ok (.iadd, 1) := by decide +kernel
theorem dX3_take_18 : decode cX3_take 18 = .ok (.putfield 19, 3) := by decide +kernel
theorem dX3_take_21 : decode cX3_take 21 = .ok (.iconst 1, 1) := by decide +kernel
theorem dX3_take_22 : decode cX3_take 22 = .ok (.ireturn, 1) := by decide +kernel
theorem dX3_takeAny_0 : decode cX3_takeAny 0 = .ok (.aload_n 0, 1) := by decide +kernel
theorem dX3_takeAny_1 : decode cX3_takeAny 1 = .ok (.aload_n 0, 1) := by decide +kernel
theorem dX3_takeAny_2 : decode cX3_takeAny 2 = .ok (.getfield 19, 3) := by decide +kernel
theorem dX3_takeAny_5 : decode cX3_takeAny 5 = .ok (.invokevirtual 31, 3) := by decide +kernel
theorem dX3_takeAny_8 : decode cX3_takeAny 8 = .ok (.istore_n 1, 1) := by decide +kernel
theorem dX3_takeAny_9 : decode cX3_takeAny 9 = .ok (.aload_n 0, 1) := by decide +kernel
theorem dX3_takeAny_10 : decode cX3_takeAny 10 = .ok (.dup, 1) := by decide +kernel
theorem dX3_takeAny_11 : decode cX3_takeAny 11 = .ok (.getfield 19, 3) := by decide +kernel
theorem dX3_takeAny_14 : decode cX3_takeAny 14 = .ok (.iconst 1, 1) := by decide +kernel
theorem dX3_takeAny_15 : decode cX3_takeAny 15 = .ok (.iadd, 1) := by decide +kernel
theorem dX3_takeAny_16 : decode cX3_takeAny 16 = .ok (.putfield 19, 3) := by decide +kernel
theorem dX3_takeAny_19 : decode cX3_takeAny 19 = .ok (.iload_n 1, 1) := by decide +kernel
theorem dX3_takeAny_20 : decode cX3_takeAny 20 = .ok (.ireturn, 1) := by decide +kernel
theorem dX3_takeName_0 : decode cX3_takeName 0 = .ok (.iconst 0, 1) := by decide +kernel
theorem dX3_takeName_1 : decode cX3_takeName 1 = .ok (.istore_n 1, 1) := by decide +kernel
theorem dX3_takeName_2 : decode cX3_takeName 2 = .ok (.iconst 0, 1) := by decide +kernel
theorem dX3_takeName_3 : decode cX3_takeName 3 = .ok (.istore_n 2, 1) := by decide +kernel
theorem dX3_takeName_4 : decode cX3_takeName 4 = .ok (.iload_n 2, 1) := by decide +kernel
theorem dX3_takeName_5 : decode cX3_takeName 5 = .ok (.iconst 4, 1) := by decide +kernel
theorem dX3_takeName_6 : decode cX3_takeName 6 = .ok (.if_icmp .ge 30, 3) := by decide +kernel
theorem dX3_takeName_9 : decode cX3_takeName 9 = .ok (.aload_n 0, 1) := by decide +kernel
theorem dX3_takeName_10 : decode cX3_takeName 10 = .ok (.bipush 97, 2) := by decide +kernel
theorem dX3_takeName_12 : decode cX3_takeName 12 = .ok (.bipush 122, 2) := by decide +kernel
theorem dX3_takeName_14 : decode cX3_takeName 14 = .ok (.invokevirtual 27, 3) := by decide +kernel
theorem dX3_takeName_17 : decode cX3_takeName 17 = .ok (.ifCond .eq 19, 3) := by decide +kernel
theorem dX3_takeName_20 : decode cX3_takeName 20 = .ok (.iload_n 1, 1) := by decide +kernel
theorem dX3_takeName_21 : decode cX3_takeName 21 = .ok (.bipush 8, 2) := by decide +kernel
theorem dX3_takeName_23 : decode cX3_takeName 23 = .ok (.ishl, 1) := by decide +kernel
theorem dX3_takeName_24 : decode cX3_takeName 24 = .ok (.aload_n 0, 1) := by decide +kernel
theorem dX3_takeName_25 : decode cX3_takeName 25 = .ok (.invokevirtual 35, 3) := by decide +kernel
theorem dX3_takeName_28 : decode cX3_takeName 28 = .ok (.ior, 1) := by decide +kernel
theorem dX3_takeName_29 : decode cX3_takeName 29 = .ok (.istore_n 1, 1) := by decide +kernel
theorem dX3_takeName_30 : decode cX3_takeName 30 = .ok (.iinc 2 1, 3) := by decide +kernel
theorem dX3_takeName_33 : decode cX3_takeName 33 = .ok (.goto (-29), 3) := by decide +kernel
theorem dX3_takeName_36 : decode cX3_takeName 36 = .ok (.iload_n 1, 1) := by decide +kernel
theorem dX3_takeName_37 : decode cX3_takeName 37 = .ok (.ireturn, 1) := by decide +kernel
theorem dX3_takeLabel_0 : decode cX3_takeLabel 0 = .ok (.aload_n 0, 1) := by decide +kernel
theorem dX3_takeLabel_1 : decode cX3_takeLabel 1 = .ok (.bipush 65, 2) := by decide +kernel
theorem dX3_takeLabel_3 : decode cX3_takeLabel 3 = .ok (.bipush 70, 2) := by decide +kernel
theorem dX3_takeLabel_5 : decode cX3_takeLabel 5 = .ok (.invokevirtual 27, 3) := by decide +kernel
theorem dX3_takeLabel_8 : decode cX3_takeLabel 8 = .ok (.ifCond .eq 13, 3) := by decide +kernel
theorem dX3_takeLabel_11 : decode cX3_takeLabel 11 = .ok (.aload_n 0, 1) := by decide +kernel
theorem dX3_takeLabel_12 : decode cX3_takeLabel 12 = .ok (.invokevirtual 35, 3) := by decide +kernel
theorem dX3_takeLabel_15 : decode cX3_takeLabel 15 = .ok (.bipush 65, 2) := by decide +kernel
theorem dX3_takeLabel_17 : decode cX3_takeLabel 17 = .ok (.isub, 1) := by decide +kernel
theorem dX3_takeLabel_18 : decode cX3_takeLabel 18 = .ok (.goto 4, 3) := by decide +kernel
theorem dX3_takeLabel_21 : decode cX3_takeLabel 21 = .ok (.iconst (-1), 1) := by decide +kernel
theorem dX3_takeLabel_22 : decode cX3_takeLabel 22 = .ok (.ireturn, 1) := by decide +kernel
theorem dX3_takeDigits_0 : decode cX3_takeDigits 0 = .ok (.aload_n 0, 1) := by decide +kernel
theorem dX3_takeDigits_1 : decode cX3_takeDigits 1 = .ok (.bipush 48, 2) := by decide +kernel
theorem dX3_takeDigits_3 : decode cX3_takeDigits 3 = .ok (.bipush 57, 2) := by decide +kernel
theorem dX3_takeDigits_5 : decode cX3_takeDigits 5 = .ok (.invokevirtual 27, 3) := by decide +kernel
theorem dX3_takeDigits_8 : decode cX3_takeDigits 8 = .ok (.ifCond .ne 5, 3) := by decide +kernel
theorem dX3_takeDigits_11 : decode cX3_takeDigits 11 = .ok (.iconst (-1), 1) := by decide +kernel
theorem dX3_takeDigits_12 : decode cX3_takeDigits 12 = .ok (.ireturn, 1) := by decide +kernel
theorem dX3_takeDigits_13 : decode cX3_takeDigits 13 = .ok (.iconst 0, 1) := by decide +kernel
theorem dX3_takeDigits_14 : decode cX3_takeDigits 14 = .ok (.istore_n 1, 1) := by decide +kernel
theorem dX3_takeDigits_15 : decode cX3_takeDigits 15 = .ok (.iconst 0, 1) := by decide +kernel
theorem dX3_takeDigits_16 : decode cX3_takeDigits 16 = .ok (.istore_n 2, 1) := by decide +kernel
theorem dX3_takeDigits_17 : decode cX3_takeDigits 17 = .ok (.iload_n 2, 1) := by decide +kernel
theorem dX3_takeDigits_18 : decode cX3_takeDigits 18 = .ok (.iconst 5, 1) := by decide +kernel
theorem dX3_takeDigits_19 : decode cX3_takeDigits 19 = .ok (.if_icmp .ge 33, 3) := by decide +kernel
theorem dX3_takeDigits_22 : decode cX3_takeDigits 22 = .ok (.aload_n 0, 1) := by decide +kernel
theorem dX3_takeDigits_23 : decode cX3_takeDigits 23 = .ok (.bipush 48, 2) := by decide +kernel
theorem dX3_takeDigits_25 : decode cX3_takeDigits 25 = .ok (.bipush 57, 2) := by decide +kernel
theorem dX3_takeDigits_27 : decode cX3_takeDigits 27 = .ok (.invokevirtual 27, 3) := by decide +kernel
theorem dX3_takeDigits_30 : decode cX3_takeDigits 30 = .ok (.ifCond .eq 22, 3) := by decide +kernel
theorem dX3_takeDigits_33 : decode cX3_takeDigits 33 = .ok (.iload_n 1, 1) := by decide +kernel
theorem dX3_takeDigits_34 : decode cX3_takeDigits 34 = .ok (.bipush 10, 2) := by decide +kernel
theorem dX3_takeDigits_36 : decode cX3_takeDigits 36 = .ok (.imul, 1) := by decide +kernel
theorem dX3_takeDigits_37 : decode cX3_takeDigits 37 = .ok (.aload_n 0, 1) := by decide +kernel
theorem dX3_takeDigits_38 : decode cX3_takeDigits 38 = .ok (.invokevirtual 35, 3) := by decide +kernel
theorem dX3_takeDigits_41 : decode cX3_takeDigits 41 = .ok (.iadd, 1) := by decide +kernel
theorem dX3_takeDigits_42 : decode cX3_takeDigits 42 = .ok (.bipush 48, 2) := by decide +kernel
theorem dX3_takeDigits_44 : decode cX3_takeDigits 44 = .ok (.isub, 1) := by decide +kernel
theorem dX3_takeDigits_45 : decode cX3_takeDigits 45 = .ok (.istore_n 1, 1) := by decide +kernel
theorem dX3_takeDigits_46 : decode cX3_takeDigits 46 = .ok (.iinc 2 1, 3) := by decide +kernel
theorem dX3_takeDigits_49 : decode cX3_takeDigits 49 = .ok (.goto (-32), 3) := by decide +kernel
theorem dX3_takeDigits_52 : decode cX3_takeDigits 52 = .ok (.iload_n 1, 1) := by decide +kernel
theorem dX3_takeDigits_53 : decode cX3_takeDigits 53 = .ok (.ireturn, 1) := by decide +kernel
theorem dX4_init_0 : decode cX4_init 0 = .ok (.aload_n 0, 1) := by decide +kernel
theorem dX4_init_1 : decode cX4_init 1 = .ok (.invokespecial 1, 3) := by decide +kernel
theorem dX4_init_4 : decode cX4_init 4 = .ok (.aload_n 0, 1) := by decide +kernel
theorem dX4_init_5 : decode cX4_init 5 = .ok (.new 7, 3) := by decide +kernel
theorem dX4_init_8 : decode cX4_init 8 = .ok (.dup, 1) := by decide +kernel
theorem dX4_init_9 : decode cX4_init 9 = .ok (.invokespecial 9, 3) := by decide +kernel
theorem dX4_init_12 : decode cX4_init 12 = .ok (.putfield 10, 3) := by decide +kernel
theorem dX4_init_15 : decode cX4_init 15 = .ok (.aload_n 0, 1) := by decide +kernel
theorem dX4_init_16 : decode cX4_init 16 = .ok (.new 7, 3) := by decide +kernel
theorem dX4_init_19 : decode cX4_init 19 = .ok (.dup, 1) := by decide +kernel
theorem dX4_init_20 : decode cX4_init 20 = .ok (.invokespecial 9, 3) := by decide +kernel
theorem dX4_init_23 : decode cX4_init 23 = .ok (.putfield 16, 3) := by decide +kernel
theorem dX4_init_26 : decode cX4_init 26 = .ok (.aload_n 0, 1) := by decide +kernel
theorem dX4_init_27 : decode cX4_init 27 = .ok (.bipush 64, 2) := by decide +kernel
theorem dX4_init_29 : decode cX4_init 29 = .ok (.newarray .int, 2) := by decide +kernel
theorem dX4_init_31 : decode cX4_init 31 = .ok (.putfield 19, 3) := by decide +kernel
theorem dX4_init_34 : decode cX4_init 34 = .ok (.aload_n 0, 1) := by decide +kernel
theorem dX4_init_35 : decode cX4_init 35 = .ok (.bipush 13, 2) := by decide +kernel
theorem dX4_init_37 : decode cX4_init 37 = .ok (.anewarray 23, 3) := by decide +kernel
theorem dX4_init_40 : decode cX4_init 40 = .ok (.putfield 25, 3) := by decide +kernel
theorem dX4_init_43 : decode cX4_init 43 = .ok (.iconst 0, 1) := by decide +kernel
theorem dX4_init_44 : decode cX4_init 44 = .ok (.istore_n 1, 1) := by decide +kernel
theorem dX4_init_45 : decode cX4_init 45 = .ok (.iload_n 1, 1) := by decide +kernel
theorem dX4_init_46 : decode cX4_init 46 = .ok (.aload_n 0, 1) := by decide +kernel
theorem dX4_init_47 : decode cX4_init 47 = .ok (.getfield 25, 3) := by decide +kernel
theorem dX4_init_50 : decode cX4_init 50 = .ok (.arraylength, 1) := by decide +kernel
theorem dX4_init_51 : decode cX4_init 51 = .ok (.if_icmp .ge 22, 3) := by decide +kernel
theorem dX4_init_54 : decode cX4_init 54 = .ok (.aload_n 0, 1) := by decide +kernel
theorem dX4_init_55 : decode cX4_init 55 = .ok (.getfield 25, 3) := by decide +kernel
theorem dX4_init_58 : decode cX4_init 58 = .ok (.iload_n 1, 1) := by decide +kernel
theorem dX4_init_59 : decode cX4_init 59 = .ok (.new 23, 3) := by decide +kernel
theorem dX4_init_62 : decode cX4_init 62 = .ok (.dup, 1) := by decide +kernel
theorem dX4_init_63 : decode cX4_init 63 = .ok (.invokespecial 29, 3) := by decide +kernel
theorem dX4_init_66 : decode cX4_init 66 = .ok (.aastore, 1) := by decide +kernel
theorem dX4_init_67 : decode cX4_init 67 = .ok (.iinc 1 1, 3) := by decide +kernel
theorem dX4_init_70 : decode cX4_init 70 = .ok (.goto (-25), 3) := by decide +kernel
theorem dX4_init_73 : decode cX4_init 73 = .ok (.aload_n 0, 1) := by decide +kernel
theorem dX4_init_74 : decode cX4_init 74 = .ok (.bipush 21, 2) := by decide +kernel
theorem dX4_init_76 : decode cX4_init 76 = .ok (.anewarray 30, 3) := by decide +kernel
theorem dX4_init_79 : decode cX4_init 79 = .ok (.putfield 32, 3) := by decide +kernel
theorem dX4_init_82 : decode cX4_init 82 = .ok (.iconst 0, 1) := by decide +kernel
theorem dX4_init_83 : decode cX4_init 83 = .ok (.istore_n 1, 1) := by decide +kernel
theorem dX4_init_84 : decode cX4_init 84 = .ok (.iload_n 1, 1) := by decide +kernel
theorem dX4_init_85 : decode cX4_init 85 = .ok (.aload_n 0, 1) := by decide +kernel
theorem dX4_init_86 : decode cX4_init 86 = .ok (.getfield 32, 3) := by decide +kernel
theorem dX4_init_89 : decode cX4_init 89 = .ok (.arraylength, 1) := by decide +kernel
theorem dX4_init_90 : decode cX4_init 90 = .ok (.if_icmp .ge 22, 3) := by decide +kernel
theorem dX4_init_93 : decode cX4_init 93 = .ok (.aload_n 0, 1) := by decide +kernel
theorem dX4_init_94 : decode cX4_init 94 = .ok (.getfield 32, 3) := by decide +kernel
theorem dX4_init_97 : decode cX4_init 97 = .ok (.iload_n 1, 1) := by decide +kernel
theorem dX4_init_98 : decode cX4_init 98 = .ok (.new 30, 3) := by decide +kernel
theorem dX4_init_101 : decode cX4_init 101 = .ok (.dup, 1) := by decide +kernel
theorem dX4_init_102 : decode cX4_init 102 = .ok (.invokespecial 36, 3) := by decide +kernel
theorem dX4_init_105 : decode cX4_init 105 = .ok (.aastore, 1) := by decide +kernel
theorem dX4_init_106 : decode cX4_init 106 = .ok (.iinc 1 1, 3) := by decide +kernel
theorem dX4_init_109 : decode cX4_init 109 = .ok (.goto (-25), 3) := by decide +kernel
theorem dX4_init_112 : decode cX4_init 112 = .ok (.aload_n 0, 1) := by decide +kernel
theorem dX4_init_113 : decode cX4_init 113 = .ok (.iconst (-1), 1) := by decide +kernel
theorem dX4_init_114 : decode cX4_init 114 = .ok (.putfield 37, 3) := by decide +kernel
theorem dX4_init_117 : decode cX4_init 117 = .ok (.return_, 1) := by decide +kernel
theorem dX4_type_0 : decode cX4_type 0 = .ok (.aload_n 0, 1) := by decide +kernel
theorem dX4_type_1 : decode cX4_type 1 = .ok (.getfield 10, 3) := by decide +kernel
theorem dX4_type_4 : decode cX4_type 4 = .ok (.iload_n 1, 1) := by decide +kernel
theorem dX4_type_5 : decode cX4_type 5 = .ok (.invokevirtual 41, 3) := by decide +kernel
theorem dX4_type_8 : decode cX4_type 8 = .ok (.ifCond .eq 13, 3) := by decide +kernel
theorem dX4_type_11 : decode cX4_type 11 = .ok (.aload_n 0, 1) := by decide +kernel
theorem dX4_type_12 : decode cX4_type 12 = .ok (.getfield 10, 3) := by decide +kernel
theorem dX4_type_15 : decode cX4_type 15 = .ok (.getfield 45, 3) := by decide +kernel
theorem dX4_type_18 : decode cX4_type 18 = .ok (.goto 4, 3) := by decide +kernel
theorem dX4_type_21 : decode cX4_type 21 = .ok (.iconst (-1), 1) := by decide +kernel
theorem dX4_type_22 : decode cX4_type 22 = .ok (.ireturn, 1) := by decide +kernel
theorem dX4_form_0 : decode cX4_form 0 = .ok (.aload_n 0, 1) := by decide +kernel
theorem dX4_form_1 : decode cX4_form 1 = .ok (.getfield 25, 3) := by decide +kernel
theorem dX4_form_4 : decode cX4_form 4 = .ok (.aload_n 0, 1) := by decide +kernel
theorem dX4_form_5 : decode cX4_form 5 = .ok (.getfield 48, 3) := by decide +kernel
theorem dX4_form_8 : decode cX4_form 8 = .ok (.aaload, 1) := by decide +kernel
theorem dX4_form_9 : decode cX4_form 9 = .ok (.astore_n 1, 1) := by decide +kernel
theorem dX4_form_10 : decode cX4_form 10 = .ok (.aload_n 0, 1) := by decide +kernel
theorem dX4_form_11 : decode cX4_form 11 = .ok (.aload_n 1, 1) := by decide +kernel
theorem dX4_form_12 : decode cX4_form 12 = .ok (.invokevirtual 51, 3) := by decide +kernel
theorem dX4_form_15 : decode cX4_form 15 = .ok (.istore_n 2, 1) := by decide +kernel
theorem dX4_form_16 : decode cX4_form 16 = .ok (.aload_n 0, 1) := by decide +kernel
theorem dX4_form_17 : decode cX4_form 17 = .ok (.getfield 10, 3) := by decide +kernel
theorem dX4_form_20 : decode cX4_form 20 = .ok (.invokevirtual 55, 3) := by decide +kernel
theorem dX4_form_23 : decode cX4_form 23 = .ok (.iload_n 2, 1) := by decide +kernel
theorem dX4_form_24 : decode cX4_form 24 = .ok (.ifCond .ne 13, 3) := by decide +kernel
theorem dX4_form_27 : decode cX4_form 27 = .ok (.new 58, 3) := by decide +kernel
theorem dX4_form_30 : decode cX4_form 30 = .ok (.dup, 1) := by decide +kernel
theorem dX4_form_31 : decode cX4_form 31 = .ok (.ldc 60, 2) := by decide +kernel
theorem dX4_form_33 : decode cX4_form 33 = .ok (.invokespecial 62, 3) := by decide +kernel
theorem dX4_form_36 : decode cX4_form 36 = .ok (.athrow, 1) := by decide +kernel
theorem dX4_form_37 : decode cX4_form 37 = .ok (.aload_n 0, 1) := by decide +kernel
theorem dX4_form_38 : decode cX4_form 38 = .ok (.getfield 48, 3) := by decide +kernel
theorem dX4_form_41 : decode cX4_form 41 = .ok (.bipush 12, 2) := by decide +kernel
theorem dX4_form_43 : decode cX4_form 43 = .ok (.if_icmp .lt 13, 3) := by decide +kernel
theorem dX4_form_46 : decode cX4_form 46 = .ok (.new 65, 3) := by decide +kernel
theorem dX4_form_49 : decode cX4_form 49 = .ok (.dup, 1) := by decide +kernel
theorem dX4_form_50 : decode cX4_form 50 = .ok (.ldc 67, 2) := by decide +kernel
theorem dX4_form_52 : decode cX4_form 52 = .ok (.invokespecial 69, 3) := by decide +kernel
theorem dX4_form_55 : decode cX4_form 55 = .ok (.athrow, 1) := by decide +kernel
theorem dX4_form_56 : decode cX4_form 56 = .ok (.aload_n 0, 1) := by decide +kernel
theorem dX4_form_57 : decode cX4_form 57 = .ok (.aload_n 1, 1) := by decide +kernel
theorem dX4_form_58 : decode cX4_form 58 = .ok (.getfield 70, 3) := by decide +kernel
theorem dX4_form_61 : decode cX4_form 61 = .ok (.aload_n 1, 1) := by decide +kernel
theorem dX4_form_62 : decode cX4_form 62 = .ok (.getfield 73, 3) := by decide +kernel
theorem dX4_form_65 : decode cX4_form 65 = .ok (.invokevirtual 76, 3) := by decide +kernel
theorem dX4_form_68 : decode cX4_form 68 = .ok (.iconst (-1), 1) := by decide +kernel
theorem dX4_form_69 : decode cX4_form 69 = .ok (.if_icmp .eq 13, 3) := by decide +kernel
theorem dX4_form_72 : decode cX4_form 72 = .ok (.new 65, 3) := by decide +kernel
theorem dX4_form_75 : decode cX4_form 75 = .ok (.dup, 1) := by decide +kernel
theorem dX4_form_76 : decode cX4_form 76 = .ok (.ldc 80, 2) := by decide +kernel
theorem dX4_form_78 : decode cX4_form 78 = .ok (.invokespecial 69, 3) := by decide +kernel
theorem dX4_form_81 : decode cX4_form 81 = .ok (.athrow, 1) := by decide +kernel
theorem dX4_form_82 : decode cX4_form 82 = .ok (.aload_n 0, 1) := by decide +kernel
theorem dX4_form_83 : decode cX4_form 83 = .ok (.dup, 1) := by decide +kernel
theorem dX4_form_84 : decode cX4_form 84 = .ok (.getfield 48, 3) := by decide +kernel
theorem dX4_form_87 : decode cX4_form 87 = .ok (.iconst 1, 1) := by decide +kernel
theorem dX4_form_88 : decode cX4_form 88 = .ok (.iadd, 1) := by decide +kernel
theorem dX4_form_89 : decode cX4_form 89 = .ok (.putfield 48, 3) := by decide +kernel
theorem dX4_form_92 : decode cX4_form 92 = .ok (.aload_n 0, 1) := by decide +kernel
theorem dX4_form_93 : decode cX4_form 93 = .ok (.iconst 0, 1) := by decide +kernel
theorem dX4_form_94 : decode cX4_form 94 = .ok (.putfield 82, 3) := by decide +kernel
theorem dX4_form_97 : decode cX4_form 97 = .ok (.aload_n 0, 1) := by decide +kernel
theorem dX4_form_98 : decode cX4_form 98 = .ok (.getfield 48, 3) := by decide +kernel
theorem dX4_form_101 : decode cX4_form 101 = .ok (.iconst 1, 1) := by decide +kernel
theorem dX4_form_102 : decode cX4_form 102 = .ok (.isub, 1) := by decide +kernel
theorem dX4_form_103 : decode cX4_form 103 = .ok (.ireturn, 1) := by decide +kernel
theorem dX4_operand_0 : decode cX4_operand 0 = .ok (.iload_n 1, 1) := by decide +kernel
theorem dX4_operand_1 : decode cX4_operand 1 = .ok (.ifCond .lt 11, 3) := by decide +kernel
theorem dX4_operand_4 : decode cX4_operand 4 = .ok (.iload_n 1, 1) := by decide +kernel
theorem dX4_operand_5 : decode cX4_operand 5 = .ok (.aload_n 0, 1) := by decide +kernel
theorem dX4_operand_6 : decode cX4_operand 6 = .ok (.getfield 48, 3) := by decide +kernel
theorem dX4_operand_9 : decode cX4_operand 9 = .ok (.if_icmp .lt 13, 3) := by decide +kernel
theorem dX4_operand_12 : decode cX4_operand 12 = .ok (.new 58, 3) := by decide +kernel
theorem dX4_operand_15 : decode cX4_operand 15 = .ok (.dup, 1) := by decide +kernel
theorem dX4_operand_16 : decode cX4_operand 16 = .ok (.ldc 86, 2) := by decide +kernel
theorem dX4_operand_18 : decode cX4_operand 18 = .ok (.invokespecial 62, 3) := by decide +kernel
theorem dX4_operand_21 : decode cX4_operand 21 = .ok (.athrow, 1) := by decide +kernel
theorem dX4_operand_22 : decode cX4_operand 22 = .ok (.iload_n 2, 1) := by decide +kernel
theorem dX4_operand_23 : decode cX4_operand 23 = .ok (.ifCond .lt 16, 3) := by decide +kernel
theorem dX4_operand_26 : decode cX4_operand 26 = .ok (.iload_n 2, 1) := by decide +kernel
theorem dX4_operand_27 : decode cX4_operand 27 = .ok (.aload_n 0, 1) := by decide +kernel
theorem dX4_operand_28 : decode cX4_operand 28 = .ok (.getfield 25, 3) := by decide +kernel
theorem dX4_operand_31 : decode cX4_operand 31 = .ok (.iload_n 1, 1) := by decide +kernel
theorem dX4_operand_32 : decode cX4_operand 32 = .ok (.aaload, 1) := by decide +kernel
theorem dX4_operand_33 : decode cX4_operand 33 = .ok (.getfield 73, 3) := by decide +kernel
theorem dX4_operand_36 : decode cX4_operand 36 = .ok (.if_icmp .lt 13, 3) := by decide +kernel
theorem dX4_operand_39 : decode cX4_operand 39 = .ok (.new 58, 3) := by decide +kernel
theorem dX4_operand_42 : decode cX4_operand 42 = .ok (.dup, 1) := by decide +kernel
theorem dX4_operand_43 : decode cX4_operand 43 = .ok (.ldc 88, 2) := by decide +kernel
theorem dX4_operand_45 : decode cX4_operand 45 = .ok (.invokespecial 62, 3) := by decide +kernel
theorem dX4_operand_48 : decode cX4_operand 48 = .ok (.athrow, 1) := by decide +kernel
theorem dX4_operand_49 : decode cX4_operand 49 = .ok (.iload_n 3, 1) := by decide +kernel
theorem dX4_operand_50 : decode cX4_operand 50 = .ok (.ifCond .lt 8, 3) := by decide +kernel
theorem dX4_operand_53 : decode cX4_operand 53 = .ok (.iload_n 3, 1) := by decide +kernel
theorem dX4_operand_54 : decode cX4_operand 54 = .ok (.iconst 2, 1) := by decide +kernel
theorem dX4_operand_55 : decode cX4_operand 55 = .ok (.if_icmp .le 13, 3) := by decide +kernel
theorem dX4_operand_58 : decode cX4_operand 58 = .ok (.new 58, 3) := by decide +kernel
theorem dX4_operand_61 : decode cX4_operand 61 = .ok (.dup, 1) := by decide +kernel
theorem dX4_operand_62 : decode cX4_operand 62 = .ok (.ldc 90, 2) := by decide +kernel
theorem dX4_operand_64 : decode cX4_operand 64 = .ok (.invokespecial 62, 3) := by decide +kernel
theorem dX4_operand_67 : decode cX4_operand 67 = .ok (.athrow, 1) := by decide +kernel
theorem dX4_operand_68 : decode cX4_operand 68 = .ok (.iload 4, 2) := by decide +kernel
theorem dX4_operand_70 : decode cX4_operand 70 = .ok (.iconst 1, 1) := by decide +kernel
theorem dX4_operand_71 : decode cX4_operand 71 = .ok (.if_icmp .lt 10, 3) := by decide +kernel
theorem dX4_operand_74 : decode cX4_operand 74 = .ok (.iload 4, 2) := by decide +kernel
theorem dX4_operand_76 : decode cX4_operand 76 = .ok (.bipush 8, 2) := by decide +kernel
theorem dX4_operand_78 : decode cX4_operand 78 = .ok (.if_icmp .le 13, 3) := by decide +kernel
theorem dX4_operand_81 : decode cX4_operand 81 = .ok (.new 58, 3) := by decide +kernel
theorem dX4_operand_84 : decode cX4_operand 84 = .ok (.dup, 1) := by decide +kernel
theorem dX4_operand_85 : decode cX4_operand 85 = .ok (.ldc 92, 2) := by decide +kernel
theorem dX4_operand_87 : decode cX4_operand 87 = .ok (.invokespecial 62, 3) := by decide +kernel
theorem dX4_operand_90 : decode cX4_operand 90 = .ok (.athrow, 1) := by decide +kernel
theorem dX4_operand_91 : decode cX4_operand 91 = .ok (.iload 5, 2) := by decide +kernel
theorem dX4_operand_93 : decode cX4_operand 93 = .ok (.bipush (-100), 2) := by decide +kernel
theorem dX4_operand_95 : decode cX4_operand 95 = .ok (.if_icmp .lt 10, 3) := by decide +kernel
theorem dX4_operand_98 : decode cX4_operand 98 = .ok (.iload 5, 2) := by decide +kernel
theorem dX4_operand_100 : decode cX4_operand 100 = .ok (.bipush 100, 2) := by decide +kernel
theorem dX4_operand_102 : decode cX4_operand 102 = .ok (.if_icmp .le 13, 3) := by decide +kernel
theorem dX4_operand_105 : decode cX4_operand 105 = .ok (.new 58, 3) := by decide +kernel
theorem dX4_operand_108 : decode cX4_operand 108 = .ok (.dup, 1) := by decide +kernel
theorem dX4_operand_109 : decode cX4_operand 109 = .ok (.ldc 94, 2) := by decide +kernel
theorem dX4_operand_111 : decode cX4_operand 111 = .ok (.invokespecial 62, 3) := by decide +kernel
theorem dX4_operand_114 : decode cX4_operand 114 = .ok (.athrow, 1) := by decide +kernel
theorem dX4_operand_115 : decode cX4_operand 115 = .ok (.aload_n 0, 1) := by decide +kernel
theorem dX4_operand_116 : decode cX4_operand 116 = .ok (.getfield 25, 3) := by decide +kernel
theorem dX4_operand_119 : decode cX4_operand 119 = .ok (.iload_n 1, 1) := by decide +kernel
theorem dX4_operand_120 : decode cX4_operand 120 = .ok (.aaload, 1) := by decide +kernel
theorem dX4_operand_121 : decode cX4_operand 121 = .ok (.getfield 96, 3) := by decide +kernel
theorem dX4_operand_124 : decode cX4_operand 124 = .ok (.iload_n 2, 1) := by decide +kernel
theorem dX4_operand_125 : decode cX4_operand 125 = .ok (.aaload, 1) := by decide +kernel
theorem dX4_operand_126 : decode cX4_operand 126 = .ok (.astore 6, 2) := by decide +kernel
theorem dX4_operand_128 : decode cX4_operand 128 = .ok (.aload 6, 2) := by decide +kernel
theorem dX4_operand_130 : decode cX4_operand 130 = .ok (.iload_n 3, 1) := by decide +kernel
theorem dX4_operand_131 : decode cX4_operand 131 = .ok (.putfield 100, 3) := by decide +kernel
theorem dX4_operand_134 : decode cX4_operand 134 = .ok (.aload 6, 2) := by decide +kernel
theorem dX4_operand_136 : decode cX4_operand 136 = .ok (.iload 4, 2) := by decide +kernel
theorem dX4_operand_138 : decode cX4_operand 138 = .ok (.putfield 105, 3) := by decide +kernel
theorem dX4_operand_141 : decode cX4_operand 141 = .ok (.aload 6, 2) := by decide +kernel
theorem dX4_operand_143 : decode cX4_operand 143 = .ok (.iload 5, 2) := by decide +kernel
theorem dX4_operand_145 : decode cX4_operand 145 = .ok (.putfield 108, 3) := by decide +kernel
theorem dX4_operand_148 : decode cX4_operand 148 = .ok (.aload 6, 2) := by decide +kernel
theorem dX4_operand_150 : decode cX4_operand 150 = .ok (.invokevirtual 111, 3) := by decide +kernel
theorem dX4_operand_153 : decode cX4_operand 153 = .ok (.ireturn, 1) := by decide +kernel
theorem dX4_test_0 : decode cX4_test 0 = .ok (.aload_n 0, 1) := by decide +kernel
theorem dX4_test_1 : decode cX4_test 1 = .ok (.iconst 0, 1) := by decide +kernel
theorem dX4_test_2 : decode cX4_test 2 = .ok (.putfield 82, 3) := by decide +kernel
theorem dX4_test_5 : decode cX4_test 5 = .ok (.iconst 0, 1) := by decide +kernel
theorem dX4_test_6 : decode cX4_test 6 = .ok (.istore_n 1, 1) := by decide +kernel
theorem dX4_test_7 : decode cX4_test 7 = .ok (.iload_n 1, 1) := by decide +kernel
theorem dX4_test_8 : decode cX4_test 8 = .ok (.aload_n 0, 1) := by decide +kernel
theorem dX4_test_9 : decode cX4_test 9 = .ok (.getfield 48, 3) := by decide +kernel
theorem dX4_test_12 : decode cX4_test 12 = .ok (.if_icmp .ge 54, 3) := by decide +kernel
theorem dX4_test_15 : decode cX4_test 15 = .ok (.iload_n 1, 1) := by decide +kernel
theorem dX4_test_16 : decode cX4_test 16 = .ok (.iconst 1, 1) := by decide +kernel
theorem dX4_test_17 : decode cX4_test 17 = .ok (.iadd, 1) := by decide +kernel
theorem dX4_test_18 : decode cX4_test 18 = .ok (.istore_n 2, 1) := by decide +kernel
theorem dX4_test_19 : decode cX4_test 19 = .ok (.iload_n 2, 1) := by decide +kernel
theorem dX4_test_20 : decode cX4_test 20 = .ok (.aload_n 0, 1) := by decide +kernel
theorem dX4_test_21 : decode cX4_test 21 = .ok (.getfield 48, 3) := by decide +kernel
theorem dX4_test_24 : decode cX4_test 24 = .ok (.if_icmp .ge 36, 3) := by decide +kernel
theorem dX4_test_27 : decode cX4_test 27 = .ok (.aload_n 0, 1) := by decide +kernel
theorem dX4_test_28 : decode cX4_test 28 = .ok (.getfield 25, 3) := by decide +kernel
theorem dX4_test_31 : decode cX4_test 31 = .ok (.iload_n 1, 1) := by decide +kernel
theorem dX4_test_32 : decode cX4_test 32 = .ok (.aaload, 1) := by decide +kernel
theorem dX4_test_33 : decode cX4_test 33 = .ok (.aload_n 0, 1) := by decide +kernel
theorem dX4_test_34 : decode cX4_test 34 = .ok (.getfield 25, 3) := by decide +kernel
theorem dX4_test_37 : decode cX4_test 37 = .ok (.iload_n 2, 1) := by decide +kernel
theorem dX4_test_38 : decode cX4_test 38 = .ok (.aaload, 1) := by decide +kernel
theorem dX4_test_39 : decode cX4_test 39 = .ok (.invokevirtual 115, 3) := by decide +kernel
theorem dX4_test_42 : decode cX4_test 42 = .ok (.ifCond .eq 12, 3) := by decide +kernel
theorem dX4_test_45 : decode cX4_test 45 = .ok (.iconst 1, 1) := by decide +kernel
theorem dX4_test_46 : decode cX4_test 46 = .ok (.bipush 16, 2) := by decide +kernel
theorem dX4_test_48 : decode cX4_test 48 = .ok (.iload_n 1, 1) := by decide +kernel
theorem dX4_test_49 : decode cX4_test 49 = .ok (.imul, 1) := by decide +kernel
theorem dX4_test_50 : decode cX4_test 50 = .ok (.iadd, 1) := by decide +kernel
theorem dX4_test_51 : decode cX4_test 51 = .ok (.iload_n 2, 1) := by decide +kernel
theorem dX4_test_52 : decode cX4_test 52 = .ok (.iadd, 1) := by decide +kernel
theorem dX4_test_53 : decode cX4_test 53 = .ok (.ireturn, 1) := by decide +kernel
theorem dX4_test_54 : decode cX4_test 54 = .ok (.iinc 2 1, 3) := by decide +kernel
theorem dX4_test_57 : decode cX4_test 57 = .ok (.goto (-38), 3) := by decide +kernel
theorem dX4_test_60 : decode cX4_test 60 = .ok (.iinc 1 1, 3) := by decide +kernel
theorem dX4_test_63 : decode cX4_test 63 = .ok (.goto (-56), 3) := by decide +kernel
theorem dX4_test_66 : decode cX4_test 66 = .ok (.aload_n 0, 1) := by decide +kernel
theorem dX4_test_67 : decode cX4_test 67 = .ok (.iconst 1, 1) := by decide +kernel
theorem dX4_test_68 : decode cX4_test 68 = .ok (.putfield 82, 3) := by decide +kernel
theorem dX4_test_71 : decode cX4_test 71 = .ok (.iconst 0, 1) := by decide +kernel
theorem dX4_test_72 : decode cX4_test 72 = .ok (.ireturn, 1) := by decide +kernel
theorem dX4_poke_0 : decode cX4_poke 0 = .ok (.aload_n 0, 1) := by decide +kernel
theorem dX4_poke_1 : decode cX4_poke 1 = .ok (.iload_n 1, 1) := by decide +kernel
theorem dX4_poke_2 : decode cX4_poke 2 = .ok (.invokevirtual 118, 3) := by decide +kernel
theorem dX4_poke_5 : decode cX4_poke 5 = .ok (.aload_n 0, 1) := by decide +kernel
theorem dX4_poke_6 : decode cX4_poke 6 = .ok (.getfield 19, 3) := by decide +kernel
theorem dX4_poke_9 : decode cX4_poke 9 = .ok (.iload_n 1, 1) := by decide +kernel
theorem dX4_poke_10 : decode cX4_poke 10 = .ok (.iaload, 1) := by decide +kernel
theorem dX4_poke_11 : decode cX4_poke 11 = .ok (.istore_n 3, 1) := by decide +kernel
theorem dX4_poke_12 : decode cX4_poke 12 = .ok (.aload_n 0, 1) := by decide +kernel
theorem dX4_poke_13 : decode cX4_poke 13 = .ok (.getfield 19, 3) := by decide +kernel
theorem dX4_poke_16 : decode cX4_poke 16 = .ok (.iload_n 1, 1) := by decide +kernel
theorem dX4_poke_17 : decode cX4_poke 17 = .ok (.iload_n 2, 1) := by decide +kernel
theorem dX4_poke_18 : decode cX4_poke 18 = .ok (.sipush 255, 3) := by decide +kernel
theorem dX4_poke_21 : decode cX4_poke 21 = .ok (.iand, 1) := by decide +kernel
theorem dX4_poke_22 : decode cX4_poke 22 = .ok (.iastore, 1) := by decide +kernel
theorem dX4_poke_23 : decode cX4_poke 23 = .ok (.iload_n 3, 1) := by decide +kernel
theorem dX4_poke_24 : decode cX4_poke 24 = .ok (.ireturn, 1) := by decide +kernel
theorem dX4_peek_0 : decode cX4_peek 0 = .ok (.aload_n 0, 1) := by decide +kernel
theorem dX4_peek_1 : decode cX4_peek 1 = .ok (.iload_n 1, 1) := by decide +kernel
theorem dX4_peek_2 : decode cX4_peek 2 = .ok (.invokevirtual 118, 3) := by decide +kernel
theorem dX4_peek_5 : decode cX4_peek 5 = .ok (.aload_n 0, 1) := by decide +kernel
theorem dX4_peek_6 : decode cX4_peek 6 = .ok (.getfield 19, 3) := by decide +kernel
theorem dX4_peek_9 : decode cX4_peek 9 = .ok (.iload_n 1, 1) := by decide +kernel
theorem dX4_peek_10 : decode cX4_peek 10 = .ok (.iaload, 1) := by decide +kernel
theorem dX4_peek_11 : decode cX4_peek 11 = .ok (.ireturn, 1) := by decide +kernel
theorem dX4_decode_0 : decode cX4_decode 0 = .ok (.aload_n 0, 1) := by decide +kernel
theorem dX4_decode_1 : decode cX4_decode 1 = .ok (.invokevirtual 122, 3) := by decide +kernel
theorem dX4_decode_4 : decode cX4_decode 4 = .ok (.aload_n 0, 1) := by decide +kernel
theorem dX4_decode_5 : decode cX4_decode 5 = .ok (.iload_n 1, 1) := by decide +kernel
theorem dX4_decode_6 : decode cX4_decode 6 = .ok (.invokevirtual 118, 3) := by decide +kernel
theorem dX4_decode_9 : decode cX4_decode 9 = .ok (.aload_n 0, 1) := by decide +kernel
theorem dX4_decode_10 : decode cX4_decode 10 = .ok (.iload_n 1, 1) := by decide +kernel
theorem dX4_decode_11 : decode cX4_decode 11 = .ok (.invokevirtual 125, 3) := by decide +kernel
theorem dX4_decode_14 : decode cX4_decode 14 = .ok (.ireturn, 1) := by decide +kernel
theorem dX4_value_0 : decode cX4_value 0 = .ok (.aload_n 0, 1) := by decide +kernel
theorem dX4_value_1 : decode cX4_value 1 = .ok (.invokevirtual 122, 3) := by decide +kernel
theorem dX4_value_4 : decode cX4_value 4 = .ok (.aload_n 0, 1) := by decide +kernel
theorem dX4_value_5 : decode cX4_value 5 = .ok (.iload_n 1, 1) := by decide +kernel
theorem dX4_value_6 : decode cX4_value 6 = .ok (.invokevirtual 118, 3) := by decide +kernel
theorem dX4_value_9 : decode cX4_value 9 = .ok (.aload_n 0, 1) := by decide +kernel
theorem dX4_value_10 : decode cX4_value 10 = .ok (.iload_n 1, 1) := by decide +kernel
theorem dX4_value_11 : decode cX4_value 11 = .ok (.invokevirtual 125, 3) := by decide +kernel
theorem dX4_value_14 : decode cX4_value 14 = .ok (.istore_n 3, 1) := by decide +kernel
theorem dX4_value_15 : decode cX4_value 15 = .ok (.iload_n 3, 1) := by decide +kernel
theorem dX4_value_16 : decode cX4_value 16 = .ok (.iconst (-1), 1) := by decide +kernel
theorem dX4_value_17 : decode cX4_value 17 = .ok (.if_icmp .ne 13, 3) := by decide +kernel
theorem dX4_value_20 : decode cX4_value 20 = .ok (.new 129, 3) := by decide +kernel
theorem dX4_value_23 : decode cX4_value 23 = .ok (.dup, 1) := by decide +kernel
theorem dX4_value_24 : decode cX4_value 24 = .ok (.ldc 131, 2) := by decide +kernel
theorem dX4_value_26 : decode cX4_value 26 = .ok (.invokespecial 133, 3) := by decide +kernel
theorem dX4_value_29 : decode cX4_value 29 = .ok (.athrow, 1) := by decide +kernel
theorem dX4_value_30 : decode cX4_value 30 = .ok (.iload_n 2, 1) := by decide +kernel
theorem dX4_value_31 : decode cX4_value 31 = .ok (.ifCond .lt 16, 3) := by decide +kernel
theorem dX4_value_34 : decode cX4_value 34 = .ok (.iload_n 2, 1) := by decide +kernel
theorem dX4_value_35 : decode cX4_value 35 = .ok (.aload_n 0, 1) := by decide +kernel
theorem dX4_value_36 : decode cX4_value 36 = .ok (.getfield 25, 3) := by decide +kernel
theorem dX4_value_39 : decode cX4_value 39 = .ok (.iload_n 3, 1) := by decide +kernel
theorem dX4_value_40 : decode cX4_value 40 = .ok (.aaload, 1) := by decide +kernel
theorem dX4_value_41 : decode cX4_value 41 = .ok (.getfield 73, 3) := by decide +kernel
theorem dX4_value_44 : decode cX4_value 44 = .ok (.if_icmp .lt 13, 3) := by decide +kernel
theorem dX4_value_47 : decode cX4_value 47 = .ok (.new 129, 3) := by decide +kernel
theorem dX4_value_50 : decode cX4_value 50 = .ok (.dup, 1) := by decide +kernel
theorem dX4_value_51 : decode cX4_value 51 = .ok (.ldc 88, 2) := by decide +kernel
theorem dX4_value_53 : decode cX4_value 53 = .ok (.invokespecial 133, 3) := by decide +kernel
theorem dX4_value_56 : decode cX4_value 56 = .ok (.athrow, 1) := by decide +kernel
theorem dX4_value_57 : decode cX4_value 57 = .ok (.aload_n 0, 1) := by decide +kernel
theorem dX4_value_58 : decode cX4_value 58 = .ok (.iload_n 1, 1) := by decide +kernel
theorem dX4_value_59 : decode cX4_value 59 = .ok (.aload_n 0, 1) := by decide +kernel
theorem dX4_value_60 : decode cX4_value 60 = .ok (.getfield 25, 3) := by decide +kernel
theorem dX4_value_63 : decode cX4_value 63 = .ok (.iload_n 3, 1) := by decide +kernel
theorem dX4_value_64 : decode cX4_value 64 = .ok (.aaload, 1) := by decide +kernel
theorem dX4_value_65 : decode cX4_value 65 = .ok (.iload_n 2, 1) := by decide +kernel
theorem dX4_value_66 : decode cX4_value 66 = .ok (.invokevirtual 134, 3) := by decide +kernel
theorem dX4_value_69 : decode cX4_value 69 = .ok (.ireturn, 1) := by decide +kernel
theorem dX4_write_0 : decode cX4_write 0 = .ok (.aload_n 0, 1) := by decide +kernel
theorem dX4_write_1 : decode cX4_write 1 = .ok (.invokevirtual 122, 3) := by decide +kernel
theorem dX4_write_4 : decode cX4_write 4 = .ok (.aload_n 0, 1) := by decide +kernel
theorem dX4_write_5 : decode cX4_write 5 = .ok (.iload_n 1, 1) := by decide +kernel
theorem dX4_write_6 : decode cX4_write 6 = .ok (.invokevirtual 118, 3) := by decide +kernel
theorem dX4_write_9 : decode cX4_write 9 = .ok (.aload_n 0, 1) := by decide +kernel
theorem dX4_write_10 : decode cX4_write 10 = .ok (.iload_n 1, 1) := by decide +kernel
theorem dX4_write_11 : decode cX4_write 11 = .ok (.invokevirtual 125, 3) := by decide +kernel
theorem dX4_write_14 : decode cX4_write 14 = .ok (.istore_n 2, 1) := by decide +kernel
theorem dX4_write_15 : decode cX4_write 15 = .ok (.aload_n 0, 1) := by decide +kernel
theorem dX4_write_16 : decode cX4_write 16 = .ok (.getfield 16, 3) := by decide +kernel
theorem dX4_write_19 : decode cX4_write 19 = .ok (.invokevirtual 55, 3) := by decide +kernel
theorem dX4_write_22 : decode cX4_write 22 = .ok (.iload_n 2, 1) := by decide +kernel
theorem dX4_write_23 : decode cX4_write 23 = .ok (.iconst (-1), 1) := by decide +kernel
theorem dX4_write_24 : decode cX4_write 24 = .ok (.if_icmp .ne 16, 3) := by decide +kernel
theorem dX4_write_27 : decode cX4_write 27 = .ok (.aload_n 0, 1) := by decide +kernel
theorem dX4_write_28 : decode cX4_write 28 = .ok (.getfield 16, 3) := by decide +kernel
theorem dX4_write_31 : decode cX4_write 31 = .ok (.bipush 63, 2) := by decide +kernel
theorem dX4_write_33 : decode cX4_write 33 = .ok (.invokevirtual 41, 3) := by decide +kernel
theorem dX4_write_36 : decode cX4_write 36 = .ok (.pop, 1) := by decide +kernel
theorem dX4_write_37 : decode cX4_write 37 = .ok (.goto 14, 3) := by decide +kernel
theorem dX4_write_40 : decode cX4_write 40 = .ok (.aload_n 0, 1) := by decide +kernel
theorem dX4_write_41 : decode cX4_write 41 = .ok (.iload_n 1, 1) := by decide +kernel
theorem dX4_write_42 : decode cX4_write 42 = .ok (.aload_n 0, 1) := by decide +kernel
theorem dX4_write_43 : decode cX4_write 43 = .ok (.getfield 25, 3) := by decide +kernel
theorem dX4_write_46 : decode cX4_write 46 = .ok (.iload_n 2, 1) := by decide +kernel
theorem dX4_write_47 : decode cX4_write 47 = .ok (.aaload, 1) := by decide +kernel
theorem dX4_write_48 : decode cX4_write 48 = .ok (.invokevirtual 138, 3) := by decide +kernel
theorem dX4_write_51 : decode cX4_write 51 = .ok (.aload_n 0, 1) := by decide +kernel
theorem dX4_write_52 : decode cX4_write 52 = .ok (.getfield 16, 3) := by decide +kernel
theorem dX4_write_55 : decode cX4_write 55 = .ok (.getfield 45, 3) := by decide +kernel
theorem dX4_write_58 : decode cX4_write 58 = .ok (.ireturn, 1) := by decide +kernel
theorem dX4_written_0 : decode cX4_written 0 = .ok (.aload_n 0, 1) := by decide +kernel
theorem dX4_written_1 : decode cX4_written 1 = .ok (.getfield 16, 3) := by decide +kernel
theorem dX4_written_4 : decode cX4_written 4 = .ok (.iload_n 1, 1) := by decide +kernel
theorem dX4_written_5 : decode cX4_written 5 = .ok (.invokevirtual 142, 3) := by decide +kernel
theorem dX4_written_8 : decode cX4_written 8 = .ok (.ireturn, 1) := by decide +kernel
theorem dX4_line_0 : decode cX4_line 0 = .ok (.aload_n 0, 1) := by decide +kernel
theorem dX4_line_1 : decode cX4_line 1 = .ok (.getfield 32, 3) := by decide +kernel
theorem dX4_line_4 : decode cX4_line 4 = .ok (.aload_n 0, 1) := by decide +kernel
theorem dX4_line_5 : decode cX4_line 5 = .ok (.getfield 146, 3) := by decide +kernel
theorem dX4_line_8 : decode cX4_line 8 = .ok (.aaload, 1) := by decide +kernel
theorem dX4_line_9 : decode cX4_line 9 = .ok (.astore_n 1, 1) := by decide +kernel
theorem dX4_line_10 : decode cX4_line 10 = .ok (.aload_n 0, 1) := by decide +kernel
theorem dX4_line_11 : decode cX4_line 11 = .ok (.aload_n 1, 1) := by decide +kernel
theorem dX4_line_12 : decode cX4_line 12 = .ok (.invokevirtual 149, 3) := by decide +kernel
theorem dX4_line_15 : decode cX4_line 15 = .ok (.istore_n 2, 1) := by decide +kernel
theorem dX4_line_16 : decode cX4_line 16 = .ok (.aload_n 0, 1) := by decide +kernel
theorem dX4_line_17 : decode cX4_line 17 = .ok (.getfield 10, 3) := by decide +kernel
theorem dX4_line_20 : decode cX4_line 20 = .ok (.invokevirtual 55, 3) := by decide +kernel
theorem dX4_line_23 : decode cX4_line 23 = .ok (.iload_n 2, 1) := by decide +kernel
theorem dX4_line_24 : decode cX4_line 24 = .ok (.ifCond .ne 13, 3) := by decide +kernel
theorem dX4_line_27 : decode cX4_line 27 = .ok (.new 58, 3) := by decide +kernel
theorem dX4_line_30 : decode cX4_line 30 = .ok (.dup, 1) := by decide +kernel
theorem dX4_line_31 : decode cX4_line 31 = .ok (.ldc 153, 2) := by decide +kernel
theorem dX4_line_33 : decode cX4_line 33 = .ok (.invokespecial 62, 3) := by decide +kernel
theorem dX4_line_36 : decode cX4_line 36 = .ok (.athrow, 1) := by decide +kernel
theorem dX4_line_37 : decode cX4_line 37 = .ok (.aload_n 1, 1) := by decide +kernel
theorem dX4_line_38 : decode cX4_line 38 = .ok (.getfield 155, 3) := by decide +kernel
theorem dX4_line_41 : decode cX4_line 41 = .ok (.iconst (-1), 1) := by decide +kernel
theorem dX4_line_42 : decode cX4_line 42 = .ok (.if_icmp .eq 25, 3) := by decide +kernel
theorem dX4_line_45 : decode cX4_line 45 = .ok (.aload_n 0, 1) := by decide +kernel
theorem dX4_line_46 : decode cX4_line 46 = .ok (.aload_n 1, 1) := by decide +kernel
theorem dX4_line_47 : decode cX4_line 47 = .ok (.getfield 155, 3) := by decide +kernel
theorem dX4_line_50 : decode cX4_line 50 = .ok (.invokevirtual 158, 3) := by decide +kernel
theorem dX4_line_53 : decode cX4_line 53 = .ok (.iconst (-1), 1) := by decide +kernel
theorem dX4_line_54 : decode cX4_line 54 = .ok (.if_icmp .eq 13, 3) := by decide +kernel
theorem dX4_line_57 : decode cX4_line 57 = .ok (.new 58, 3) := by decide +kernel
theorem dX4_line_60 : decode cX4_line 60 = .ok (.dup, 1) := by decide +kernel
theorem dX4_line_61 : decode cX4_line 61 = .ok (.ldc 161, 2) := by decide +kernel
theorem dX4_line_63 : decode cX4_line 63 = .ok (.invokespecial 62, 3) := by decide +kernel
theorem dX4_line_66 : decode cX4_line 66 = .ok (.athrow, 1) := by decide +kernel
theorem dX4_line_67 : decode cX4_line 67 = .ok (.aload_n 0, 1) := by decide +kernel
theorem dX4_line_68 : decode cX4_line 68 = .ok (.getfield 146, 3) := by decide +kernel
theorem dX4_line_71 : decode cX4_line 71 = .ok (.bipush 20, 2) := by decide +kernel
theorem dX4_line_73 : decode cX4_line 73 = .ok (.if_icmp .lt 13, 3) := by decide +kernel
theorem dX4_line_76 : decode cX4_line 76 = .ok (.new 65, 3) := by decide +kernel
theorem dX4_line_79 : decode cX4_line 79 = .ok (.dup, 1) := by decide +kernel
theorem dX4_line_80 : decode cX4_line 80 = .ok (.ldc 163, 2) := by decide +kernel
theorem dX4_line_82 : decode cX4_line 82 = .ok (.invokespecial 69, 3) := by decide +kernel
theorem dX4_line_85 : decode cX4_line 85 = .ok (.athrow, 1) := by decide +kernel
theorem dX4_line_86 : decode cX4_line 86 = .ok (.aload_n 0, 1) := by decide +kernel
theorem dX4_line_87 : decode cX4_line 87 = .ok (.dup, 1) := by decide +kernel
theorem dX4_line_88 : decode cX4_line 88 = .ok (.getfield 146, 3) := by decide +kernel
theorem dX4_line_91 : decode cX4_line 91 = .ok (.iconst 1, 1) := by decide +kernel
theorem dX4_line_92 : decode cX4_line 92 = .ok (.iadd, 1) := by decide +kernel
theorem dX4_line_93 : decode cX4_line 93 = .ok (.putfield 146, 3) := by decide +kernel
theorem dX4_line_96 : decode cX4_line 96 = .ok (.aload_n 0, 1) := by decide +kernel
theorem dX4_line_97 : decode cX4_line 97 = .ok (.getfield 146, 3) := by decide +kernel
theorem dX4_line_100 : decode cX4_line 100 = .ok (.ireturn, 1) := by decide +kernel
theorem dX4_erase_0 : decode cX4_erase 0 = .ok (.aload_n 0, 1) := by decide +kernel
theorem dX4_erase_1 : decode cX4_erase 1 = .ok (.getfield 146, 3) := by decide +kernel
theorem dX4_erase_4 : decode cX4_erase 4 = .ok (.istore_n 1, 1) := by decide +kernel
theorem dX4_erase_5 : decode cX4_erase 5 = .ok (.aload_n 0, 1) := by decide +kernel
theorem dX4_erase_6 : decode cX4_erase 6 = .ok (.iconst 0, 1) := by decide +kernel
theorem dX4_erase_7 : decode cX4_erase 7 = .ok (.putfield 146, 3) := by decide +kernel
theorem dX4_erase_10 : decode cX4_erase 10 = .ok (.iload_n 1, 1) := by decide +kernel
theorem dX4_erase_11 : decode cX4_erase 11 = .ok (.ireturn, 1) := by decide +kernel
theorem dX4_assemble_0 : decode cX4_assemble 0 = .ok (.aload_n 0, 1) := by decide +kernel
theorem dX4_assemble_1 : decode cX4_assemble 1 = .ok (.invokevirtual 122, 3) := by decide +kernel
theorem dX4_assemble_4 : decode cX4_assemble 4 = .ok (.aload_n 0, 1) := by decide +kernel
theorem dX4_assemble_5 : decode cX4_assemble 5 = .ok (.invokevirtual 165, 3) := by decide +kernel
theorem dX4_assemble_8 : decode cX4_assemble 8 = .ok (.istore_n 2, 1) := by decide +kernel
theorem dX4_assemble_9 : decode cX4_assemble 9 = .ok (.iload_n 2, 1) := by decide +kernel
theorem dX4_assemble_10 : decode cX4_assemble 10 = .ok (.iconst (-1), 1) := by decide +kernel
theorem dX4_assemble_11 : decode cX4_assemble 11 = .ok (.if_icmp .ne 8, 3) := by decide +kernel
theorem dX4_assemble_14 : decode cX4_assemble 14 = .ok (.aload_n 0, 1) := by decide +kernel
theorem dX4_assemble_15 : decode cX4_assemble 15 = .ok (.invokevirtual 168, 3) := by decide +kernel
theorem dX4_assemble_18 : decode cX4_assemble 18 = .ok (.istore_n 2, 1) := by decide +kernel
theorem dX4_assemble_19 : decode cX4_assemble 19 = .ok (.iload_n 2, 1) := by decide +kernel
theorem dX4_assemble_20 : decode cX4_assemble 20 = .ok (.iconst (-1), 1) := by decide +kernel
theorem dX4_assemble_21 : decode cX4_assemble 21 = .ok (.if_icmp .eq 18, 3) := by decide +kernel
theorem dX4_assemble_24 : decode cX4_assemble 24 = .ok (.aload_n 0, 1) := by decide +kernel
theorem dX4_assemble_25 : decode cX4_assemble 25 = .ok (.iload_n 2, 1) := by decide +kernel
theorem dX4_assemble_26 : decode cX4_assemble 26 = .ok (.putfield 37, 3) := by decide +kernel
theorem dX4_assemble_29 : decode cX4_assemble 29 = .ok (.new 171, 3) := by decide +kernel
theorem dX4_assemble_32 : decode cX4_assemble 32 = .ok (.dup, 1) := by decide +kernel
theorem dX4_assemble_33 : decode cX4_assemble 33 = .ok (.ldc 173, 2) := by decide +kernel
theorem dX4_assemble_35 : decode cX4_assemble 35 = .ok (.invokespecial 175, 3) := by decide +kernel
theorem dX4_assemble_38 : decode cX4_assemble 38 = .ok (.athrow, 1) := by decide +kernel
theorem dX4_assemble_39 : decode cX4_assemble 39 = .ok (.aload_n 0, 1) := by decide +kernel
theorem dX4_assemble_40 : decode cX4_assemble 40 = .ok (.iload_n 1, 1) := by decide +kernel
theorem dX4_assemble_41 : decode cX4_assemble 41 = .ok (.invokevirtual 118, 3) := by decide +kernel
theorem dX4_assemble_44 : decode cX4_assemble 44 = .ok (.aload_n 0, 1) := by decide +kernel
theorem dX4_assemble_45 : decode cX4_assemble 45 = .ok (.iload_n 1, 1) := by decide +kernel
theorem dX4_assemble_46 : decode cX4_assemble 46 = .ok (.invokevirtual 176, 3) := by decide +kernel
theorem dX4_assemble_49 : decode cX4_assemble 49 = .ok (.istore_n 3, 1) := by decide +kernel
theorem dX4_assemble_50 : decode cX4_assemble 50 = .ok (.iload_n 3, 1) := by decide +kernel
theorem dX4_assemble_51 : decode cX4_assemble 51 = .ok (.bipush 64, 2) := by decide +kernel
theorem dX4_assemble_53 : decode cX4_assemble 53 = .ok (.if_icmp .le 13, 3) := by decide +kernel
theorem dX4_assemble_56 : decode cX4_assemble 56 = .ok (.new 129, 3) := by decide +kernel
theorem dX4_assemble_59 : decode cX4_assemble 59 = .ok (.dup, 1) := by decide +kernel
theorem dX4_assemble_60 : decode cX4_assemble 60 = .ok (.ldc 179, 2) := by decide +kernel
theorem dX4_assemble_62 : decode cX4_assemble 62 = .ok (.invokespecial 133, 3) := by decide +kernel
theorem dX4_assemble_65 : decode cX4_assemble 65 = .ok (.athrow, 1) := by decide +kernel
theorem dX4_assemble_66 : decode cX4_assemble 66 = .ok (.aload_n 0, 1) := by decide +kernel
theorem dX4_assemble_67 : decode cX4_assemble 67 = .ok (.invokevirtual 181, 3) := by decide +kernel
theorem dX4_assemble_70 : decode cX4_assemble 70 = .ok (.istore 4, 2) := by decide +kernel
theorem dX4_assemble_72 : decode cX4_assemble 72 = .ok (.iload 4, 2) := by decide +kernel
theorem dX4_assemble_74 : decode cX4_assemble 74 = .ok (.iconst (-1), 1) := by decide +kernel
theorem dX4_assemble_75 : decode cX4_assemble 75 = .ok (.if_icmp .eq 19, 3) := by decide +kernel
theorem dX4_assemble_78 : decode cX4_assemble 78 = .ok (.aload_n 0, 1) := by decide +kernel
theorem dX4_assemble_79 : decode cX4_assemble 79 = .ok (.iload 4, 2) := by decide +kernel
theorem dX4_assemble_81 : decode cX4_assemble 81 = .ok (.putfield 37, 3) := by decide +kernel
theorem dX4_assemble_84 : decode cX4_assemble 84 = .ok (.new 58, 3) := by decide +kernel
theorem dX4_assemble_87 : decode cX4_assemble 87 = .ok (.dup, 1) := by decide +kernel
theorem dX4_assemble_88 : decode cX4_assemble 88 = .ok (.ldc 184, 2) := by decide +kernel
theorem dX4_assemble_90 : decode cX4_assemble 90 = .ok (.invokespecial 62, 3) := by decide +kernel
theorem dX4_assemble_93 : decode cX4_assemble 93 = .ok (.athrow, 1) := by decide +kernel
theorem dX4_assemble_94 : decode cX4_assemble 94 = .ok (.aload_n 0, 1) := by decide +kernel
theorem dX4_assemble_95 : decode cX4_assemble 95 = .ok (.invokevirtual 186, 3) := by decide +kernel
theorem dX4_assemble_98 : decode cX4_assemble 98 = .ok (.iload_n 3, 1) := by decide +kernel
theorem dX4_assemble_99 : decode cX4_assemble 99 = .ok (.iload_n 1, 1) := by decide +kernel
theorem dX4_assemble_100 : decode cX4_assemble 100 = .ok (.isub, 1) := by decide +kernel
theorem dX4_assemble_101 : decode cX4_assemble 101 = .ok (.ireturn, 1) := by decide +kernel
theorem dX4_fault_0 : decode cX4_fault 0 = .ok (.aload_n 0, 1) := by decide +kernel
theorem dX4_fault_1 : decode cX4_fault 1 = .ok (.getfield 37, 3) := by decide +kernel
theorem dX4_fault_4 : decode cX4_fault 4 = .ok (.ireturn, 1) := by decide +kernel
theorem dX4_count_0 : decode cX4_count 0 = .ok (.iload_n 1, 1) := by decide +kernel
theorem dX4_count_1 : decode cX4_count 1 = .ok (.tableswitch 62 0 3 #[31, 36, 41, 54], 31) := by decide +kernel
theorem dX4_count_32 : decode cX4_count 32 = .ok (.aload_n 0, 1) := by decide +kernel
theorem dX4_count_33 : decode cX4_count 33 = .ok (.getfield 48, 3) := by decide +kernel
theorem dX4_count_36 : decode cX4_count 36 = .ok (.ireturn, 1) := by decide +kernel
theorem dX4_count_37 : decode cX4_count 37 = .ok (.aload_n 0, 1) := by decide +kernel
theorem dX4_count_38 : decode cX4_count 38 = .ok (.getfield 146, 3) := by decide +kernel
theorem dX4_count_41 : decode cX4_count 41 = .ok (.ireturn, 1) := by decide +kernel
theorem dX4_count_42 : decode cX4_count 42 = .ok (.aload_n 0, 1) := by decide +kernel
theorem dX4_count_43 : decode cX4_count 43 = .ok (.getfield 82, 3) := by decide +kernel
theorem dX4_count_46 : decode cX4_count 46 = .ok (.ifCond .eq 7, 3) := by decide +kernel
theorem dX4_count_49 : decode cX4_count 49 = .ok (.iconst 1, 1) := by decide +kernel
theorem dX4_count_50 : decode cX4_count 50 = .ok (.goto 4, 3) := by decide +kernel
theorem dX4_count_53 : decode cX4_count 53 = .ok (.iconst 0, 1) := by decide +kernel
theorem dX4_count_54 : decode cX4_count 54 = .ok (.ireturn, 1) := by decide +kernel
theorem dX4_count_55 : decode cX4_count 55 = .ok (.aload_n 0, 1) := by decide +kernel
theorem dX4_count_56 : decode cX4_count 56 = .ok (.getfield 10, 3) := by decide +kernel
theorem dX4_count_59 : decode cX4_count 59 = .ok (.getfield 45, 3) := by decide +kernel
theorem dX4_count_62 : decode cX4_count 62 = .ok (.ireturn, 1) := by decide +kernel
theorem dX4_count_63 : decode cX4_count 63 = .ok (.iconst (-1), 1) := by decide +kernel
theorem dX4_count_64 : decode cX4_count 64 = .ok (.ireturn, 1) := by decide +kernel
theorem dX4_requireReady_0 : decode cX4_requireReady 0 = .ok (.aload_n 0, 1) := by decide +kernel
theorem dX4_requireReady_1 : decode cX4_requireReady 1 = .ok (.getfield 82, 3) := by decide +kernel
theorem dX4_requireReady_4 : decode cX4_requireReady 4 = .ok (.ifCond .ne 13, 3) := by decide +kernel
theorem dX4_requireReady_7 : decode cX4_requireReady 7 = .ok (.new 65, 3) := by decide +kernel
theorem dX4_requireReady_10 : decode cX4_requireReady 10 = .ok (.dup, 1) := by decide +kernel
theorem dX4_requireReady_11 : decode cX4_requireReady 11 = .ok (.ldc 189, 2) := by decide +kernel
theorem dX4_requireReady_13 : decode cX4_requireReady 13 = .ok (.invokespecial 69, 3) := by decide +kernel
theorem dX4_requireReady_16 : decode cX4_requireReady 16 = .ok (.athrow, 1) := by decide +kernel
theorem dX4_requireReady_17 : decode cX4_requireReady 17 = .ok (.return_, 1) := by decide +kernel
theorem dX4_requireAddress_0 : decode cX4_requireAddress 0 = .ok (.iload_n 1, 1) := by decide +kernel
theorem dX4_requireAddress_1 : decode cX4_requireAddress 1 = .ok (.ifCond .lt 9, 3) := by decide +kernel
theorem dX4_requireAddress_4 : decode cX4_requireAddress 4 = .ok (.iload_n 1, 1) := by decide +kernel
theorem dX4_requireAddress_5 : decode cX4_requireAddress 5 = .ok (.bipush 64, 2) := by decide +kernel
theorem dX4_requireAddress_7 : decode cX4_requireAddress 7 = .ok (.if_icmp .lt 13, 3) := by decide +kernel
theorem dX4_requireAddress_10 : decode cX4_requireAddress 10 = .ok (.new 129, 3) := by decide +kernel
theorem dX4_requireAddress_13 : decode cX4_requireAddress 13 = .ok (.dup, 1) := by decide +kernel
theorem dX4_requireAddress_14 : decode cX4_requireAddress 14 = .ok (.ldc 191, 2) := by decide +kernel
theorem dX4_requireAddress_16 : decode cX4_requireAddress 16 = .ok (.invokespecial 133, 3) := by decide +kernel
theorem dX4_requireAddress_19 : decode cX4_requireAddress 19 = .ok (.athrow, 1) := by decide +kernel
theorem dX4_requireAddress_20 : decode cX4_requireAddress 20 = .ok (.return_, 1) := by decide +kernel
theorem dX4_readForm_0 : decode cX4_readForm 0 = .ok (.aload_n 0, 1) := by decide +kernel
theorem dX4_readForm_1 : decode cX4_readForm 1 = .ok (.getfield 10, 3) := by decide +kernel
theorem dX4_readForm_4 : decode cX4_readForm 4 = .ok (.invokevirtual 193, 3) := by decide +kernel
theorem dX4_readForm_7 : decode cX4_readForm 7 = .ok (.istore_n 2, 1) := by decide +kernel
theorem dX4_readForm_8 : decode cX4_readForm 8 = .ok (.iload_n 2, 1) := by decide +kernel
theorem dX4_readForm_9 : decode cX4_readForm 9 = .ok (.ifCond .eq 15, 3) := by decide +kernel
theorem dX4_readForm_12 : decode cX4_readForm 12 = .ok (.aload_n 0, 1) := by decide +kernel
theorem dX4_readForm_13 : decode cX4_readForm 13 = .ok (.getfield 10, 3) := by decide +kernel
theorem dX4_readForm_16 : decode cX4_readForm 16 = .ok (.bipush 32, 2) := by decide +kernel
theorem dX4_readForm_18 : decode cX4_readForm 18 = .ok (.invokevirtual 196, 3) := by decide +kernel
theorem dX4_readForm_21 : decode cX4_readForm 21 = .ok (.ifCond .ne 5, 3) := by decide +kernel
theorem dX4_readForm_24 : decode cX4_readForm 24 = .ok (.iconst 0, 1) := by decide +kernel
theorem dX4_readForm_25 : decode cX4_readForm 25 = .ok (.ireturn, 1) := by decide +kernel
theorem dX4_readForm_26 : decode cX4_readForm 26 = .ok (.aload_n 0, 1) := by decide +kernel
theorem dX4_readForm_27 : decode cX4_readForm 27 = .ok (.getfield 10, 3) := by decide +kernel
theorem dX4_readForm_30 : decode cX4_readForm 30 = .ok (.invokevirtual 199, 3) := by decide +kernel
theorem dX4_readForm_33 : decode cX4_readForm 33 = .ok (.istore_n 3, 1) := by decide +kernel
theorem dX4_readForm_34 : decode cX4_readForm 34 = .ok (.iload_n 3, 1) := by decide +kernel
theorem dX4_readForm_35 : decode cX4_readForm 35 = .ok (.bipush 8, 2) := by decide +kernel
theorem dX4_readForm_37 : decode cX4_readForm 37 = .ok (.if_icmp .eq 17, 3) := by decide +kernel
theorem dX4_readForm_40 : decode cX4_readForm 40 = .ok (.iload_n 3, 1) := by decide +kernel
theorem dX4_readForm_41 : decode cX4_readForm 41 = .ok (.bipush 16, 2) := by decide +kernel
theorem dX4_readForm_43 : decode cX4_readForm 43 = .ok (.if_icmp .eq 11, 3) := by decide +kernel
theorem dX4_readForm_46 : decode cX4_readForm 46 = .ok (.iload_n 3, 1) := by decide +kernel
theorem dX4_readForm_47 : decode cX4_readForm 47 = .ok (.bipush 24, 2) := by decide +kernel
theorem dX4_readForm_49 : decode cX4_readForm 49 = .ok (.if_icmp .eq 5, 3) := by decide +kernel
theorem dX4_readForm_52 : decode cX4_readForm 52 = .ok (.iconst 0, 1) := by decide +kernel
theorem dX4_readForm_53 : decode cX4_readForm 53 = .ok (.ireturn, 1) := by decide +kernel
theorem dX4_readForm_54 : decode cX4_readForm 54 = .ok (.aload_n 1, 1) := by decide +kernel
theorem dX4_readForm_55 : decode cX4_readForm 55 = .ok (.iload_n 2, 1) := by decide +kernel
theorem dX4_readForm_56 : decode cX4_readForm 56 = .ok (.iload_n 3, 1) := by decide +kernel
theorem dX4_readForm_57 : decode cX4_readForm 57 = .ok (.bipush 8, 2) := by decide +kernel
theorem dX4_readForm_59 : decode cX4_readForm 59 = .ok (.idiv, 1) := by decide +kernel
theorem dX4_readForm_60 : decode cX4_readForm 60 = .ok (.invokevirtual 202, 3) := by decide +kernel
theorem dX4_readForm_63 : decode cX4_readForm 63 = .ok (.iconst 0, 1) := by decide +kernel
theorem dX4_readForm_64 : decode cX4_readForm 64 = .ok (.istore 4, 2) := by decide +kernel
theorem dX4_readForm_66 : decode cX4_readForm 66 = .ok (.iload 4, 2) := by decide +kernel
theorem dX4_readForm_68 : decode cX4_readForm 68 = .ok (.iload_n 3, 1) := by decide +kernel
theorem dX4_readForm_69 : decode cX4_readForm 69 = .ok (.if_icmp .ge 27, 3) := by decide +kernel
theorem dX4_readForm_72 : decode cX4_readForm 72 = .ok (.aload_n 1, 1) := by decide +kernel
theorem dX4_readForm_73 : decode cX4_readForm 73 = .ok (.iload 4, 2) := by decide +kernel
theorem dX4_readForm_75 : decode cX4_readForm 75 = .ok (.aload_n 0, 1) := by decide +kernel
theorem dX4_readForm_76 : decode cX4_readForm 76 = .ok (.getfield 10, 3) := by decide +kernel
theorem dX4_readForm_79 : decode cX4_readForm 79 = .ok (.invokevirtual 206, 3) := by decide +kernel
theorem dX4_readForm_82 : decode cX4_readForm 82 = .ok (.invokevirtual 210, 3) := by decide +kernel
theorem dX4_readForm_85 : decode cX4_readForm 85 = .ok (.ifCond .ne 5, 3) := by decide +kernel
theorem dX4_readForm_88 : decode cX4_readForm 88 = .ok (.iconst 0, 1) := by decide +kernel
theorem dX4_readForm_89 : decode cX4_readForm 89 = .ok (.ireturn, 1) := by decide +kernel
theorem dX4_readForm_90 : decode cX4_readForm 90 = .ok (.iinc 4 1, 3) := by decide +kernel
theorem dX4_readForm_93 : decode cX4_readForm 93 = .ok (.goto (-27), 3) := by decide +kernel
theorem dX4_readForm_96 : decode cX4_readForm 96 = .ok (.aload_n 1, 1) := by decide +kernel
theorem dX4_readForm_97 : decode cX4_readForm 97 = .ok (.invokevirtual 214, 3) := by decide +kernel
theorem dX4_readForm_100 : decode cX4_readForm 100 = .ok (.ireturn, 1) := by decide +kernel
theorem dX4_findForm_0 : decode cX4_findForm 0 = .ok (.iconst 0, 1) := by decide +kernel
theorem dX4_findForm_1 : decode cX4_findForm 1 = .ok (.istore_n 3, 1) := by decide +kernel
theorem dX4_findForm_2 : decode cX4_findForm 2 = .ok (.iload_n 3, 1) := by decide +kernel
theorem dX4_findForm_3 : decode cX4_findForm 3 = .ok (.aload_n 0, 1) := by decide +kernel
theorem dX4_findForm_4 : decode cX4_findForm 4 = .ok (.getfield 48, 3) := by decide +kernel
theorem dX4_findForm_7 : decode cX4_findForm 7 = .ok (.if_icmp .ge 37, 3) := by decide +kernel
theorem dX4_findForm_10 : decode cX4_findForm 10 = .ok (.aload_n 0, 1) := by decide +kernel
theorem dX4_findForm_11 : decode cX4_findForm 11 = .ok (.getfield 25, 3) := by decide +kernel
theorem dX4_findForm_14 : decode cX4_findForm 14 = .ok (.iload_n 3, 1) := by decide +kernel
theorem dX4_findForm_15 : decode cX4_findForm 15 = .ok (.aaload, 1) := by decide +kernel
theorem dX4_findForm_16 : decode cX4_findForm 16 = .ok (.getfield 70, 3) := by decide +kernel
theorem dX4_findForm_19 : decode cX4_findForm 19 = .ok (.iload_n 1, 1) := by decide +kernel
theorem dX4_findForm_20 : decode cX4_findForm 20 = .ok (.if_icmp .ne 18, 3) := by decide +kernel
theorem dX4_findForm_23 : decode cX4_findForm 23 = .ok (.aload_n 0, 1) := by decide +kernel
theorem dX4_findForm_24 : decode cX4_findForm 24 = .ok (.getfield 25, 3) := by decide +kernel
theorem dX4_findForm_27 : decode cX4_findForm 27 = .ok (.iload_n 3, 1) := by decide +kernel
theorem dX4_findForm_28 : decode cX4_findForm 28 = .ok (.aaload, 1) := by decide +kernel
theorem dX4_findForm_29 : decode cX4_findForm 29 = .ok (.getfield 73, 3) := by decide +kernel
theorem dX4_findForm_32 : decode cX4_findForm 32 = .ok (.iload_n 2, 1) := by decide +kernel
theorem dX4_findForm_33 : decode cX4_findForm 33 = .ok (.if_icmp .ne 5, 3) := by decide +kernel
theorem dX4_findForm_36 : decode cX4_findForm 36 = .ok (.iload_n 3, 1) := by decide +kernel
theorem dX4_findForm_37 : decode cX4_findForm 37 = .ok (.ireturn, 1) := by decide +kernel
theorem dX4_findForm_38 : decode cX4_findForm 38 = .ok (.iinc 3 1, 3) := by decide +kernel
theorem dX4_findForm_41 : decode cX4_findForm 41 = .ok (.goto (-39), 3) := by decide +kernel
theorem dX4_findForm_44 : decode cX4_findForm 44 = .ok (.iconst (-1), 1) := by decide +kernel
theorem dX4_findForm_45 : decode cX4_findForm 45 = .ok (.ireturn, 1) := by decide +kernel
theorem dX4_narrowestAt_0 : decode cX4_narrowestAt 0 = .ok (.aload_n 0, 1) := by decide +kernel
theorem dX4_narrowestAt_1 : decode cX4_narrowestAt 1 = .ok (.iload_n 1, 1) := by decide +kernel
theorem dX4_narrowestAt_2 : decode cX4_narrowestAt 2 = .ok (.invokevirtual 218, 3) := by decide +kernel
theorem dX4_narrowestAt_5 : decode cX4_narrowestAt 5 = .ok (.istore_n 2, 1) := by decide +kernel
theorem dX4_narrowestAt_6 : decode cX4_narrowestAt 6 = .ok (.iconst (-1), 1) := by decide +kernel
theorem dX4_narrowestAt_7 : decode cX4_narrowestAt 7 = .ok (.istore_n 3, 1) := by decide +kernel
theorem dX4_narrowestAt_8 : decode cX4_narrowestAt 8 = .ok (.iconst 0, 1) := by decide +kernel
theorem dX4_narrowestAt_9 : decode cX4_narrowestAt 9 = .ok (.istore 4, 2) := by decide +kernel
theorem dX4_narrowestAt_11 : decode cX4_narrowestAt 11 = .ok (.iload 4, 2) := by decide +kernel
theorem dX4_narrowestAt_13 : decode cX4_narrowestAt 13 = .ok (.aload_n 0, 1) := by decide +kernel
theorem dX4_narrowestAt_14 : decode cX4_narrowestAt 14 = .ok (.getfield 48, 3) := by decide +kernel
theorem dX4_narrowestAt_17 : decode cX4_narrowestAt 17 = .ok (.if_icmp .ge 79, 3) := by decide +kernel
theorem dX4_narrowestAt_20 : decode cX4_narrowestAt 20 = .ok (.iload_n 1, 1) := by decide +kernel
theorem dX4_narrowestAt_21 : decode cX4_narrowestAt 21 = .ok (.aload_n 0, 1) := by decide +kernel
theorem dX4_narrowestAt_22 : decode cX4_narrowestAt 22 = .ok (.getfield 25, 3) := by decide +kernel
theorem dX4_narrowestAt_25 : decode cX4_narrowestAt 25 = .ok (.iload 4, 2) := by decide +kernel
theorem dX4_narrowestAt_27 : decode cX4_narrowestAt 27 = .ok (.aaload, 1) := by decide +kernel
theorem dX4_narrowestAt_28 : decode cX4_narrowestAt 28 = .ok (.getfield 221, 3) := by decide +kernel
theorem dX4_narrowestAt_31 : decode cX4_narrowestAt 31 = .ok (.iadd, 1) := by decide +kernel
theorem dX4_narrowestAt_32 : decode cX4_narrowestAt 32 = .ok (.bipush 64, 2) := by decide +kernel
theorem dX4_narrowestAt_34 : decode cX4_narrowestAt 34 = .ok (.if_icmp .gt 21, 3) := by decide +kernel
theorem dX4_narrowestAt_37 : decode cX4_narrowestAt 37 = .ok (.aload_n 0, 1) := by decide +kernel
theorem dX4_narrowestAt_38 : decode cX4_narrowestAt 38 = .ok (.getfield 25, 3) := by decide +kernel
theorem dX4_narrowestAt_41 : decode cX4_narrowestAt 41 = .ok (.iload 4, 2) := by decide +kernel
theorem dX4_narrowestAt_43 : decode cX4_narrowestAt 43 = .ok (.aaload, 1) := by decide +kernel
theorem dX4_narrowestAt_44 : decode cX4_narrowestAt 44 = .ok (.iload_n 2, 1) := by decide +kernel
theorem dX4_narrowestAt_45 : decode cX4_narrowestAt 45 = .ok (.invokevirtual 224, 3) := by decide +kernel
theorem dX4_narrowestAt_48 : decode cX4_narrowestAt 48 = .ok (.ifCond .eq 7, 3) := by decide +kernel
theorem dX4_narrowestAt_51 : decode cX4_narrowestAt 51 = .ok (.iconst 1, 1) := by decide +kernel
theorem dX4_narrowestAt_52 : decode cX4_narrowestAt 52 = .ok (.goto 4, 3) := by decide +kernel
theorem dX4_narrowestAt_55 : decode cX4_narrowestAt 55 = .ok (.iconst 0, 1) := by decide +kernel
theorem dX4_narrowestAt_56 : decode cX4_narrowestAt 56 = .ok (.istore 5, 2) := by decide +kernel
theorem dX4_narrowestAt_58 : decode cX4_narrowestAt 58 = .ok (.iload 5, 2) := by decide +kernel
theorem dX4_narrowestAt_60 : decode cX4_narrowestAt 60 = .ok (.ifCond .eq 30, 3) := by decide +kernel
theorem dX4_narrowestAt_63 : decode cX4_narrowestAt 63 = .ok (.iload_n 3, 1) := by decide +kernel
theorem dX4_narrowestAt_64 : decode cX4_narrowestAt 64 = .ok (.iconst (-1), 1) := by decide +kernel
theorem dX4_narrowestAt_65 : decode cX4_narrowestAt 65 = .ok (.if_icmp .eq 22, 3) := by decide +kernel
theorem dX4_narrowestAt_68 : decode cX4_narrowestAt 68 = .ok (.aload_n 0, 1) := by decide +kernel
theorem dX4_narrowestAt_69 : decode cX4_narrowestAt 69 = .ok (.getfield 25, 3) := by decide +kernel
theorem dX4_narrowestAt_72 : decode cX4_narrowestAt 72 = .ok (.iload 4, 2) := by decide +kernel
theorem dX4_narrowestAt_74 : decode cX4_narrowestAt 74 = .ok (.aaload, 1) := by decide +kernel
theorem dX4_narrowestAt_75 : decode cX4_narrowestAt 75 = .ok (.aload_n 0, 1) := by decide +kernel
theorem dX4_narrowestAt_76 : decode cX4_narrowestAt 76 = .ok (.getfield 25, 3) := by decide +kernel
theorem dX4_narrowestAt_79 : decode cX4_narrowestAt 79 = .ok (.iload_n 3, 1) := by decide +kernel
theorem dX4_narrowestAt_80 : decode cX4_narrowestAt 80 = .ok (.aaload, 1) := by decide +kernel
theorem dX4_narrowestAt_81 : decode cX4_narrowestAt 81 = .ok (.invokevirtual 228, 3) := by decide +kernel
theorem dX4_narrowestAt_84 : decode cX4_narrowestAt 84 = .ok (.ifCond .eq 6, 3) := by decide +kernel
theorem dX4_narrowestAt_87 : decode cX4_narrowestAt 87 = .ok (.iload 4, 2) := by decide +kernel
theorem dX4_narrowestAt_89 : decode cX4_narrowestAt 89 = .ok (.istore_n 3, 1) := by decide +kernel
theorem dX4_narrowestAt_90 : decode cX4_narrowestAt 90 = .ok (.iinc 4 1, 3) := by decide +kernel
theorem dX4_narrowestAt_93 : decode cX4_narrowestAt 93 = .ok (.goto (-82), 3) := by decide +kernel
theorem dX4_narrowestAt_96 : decode cX4_narrowestAt 96 = .ok (.iload_n 3, 1) := by decide +kernel
theorem dX4_narrowestAt_97 : decode cX4_narrowestAt 97 = .ok (.ireturn, 1) := by decide +kernel
theorem dX4_wordAt_0 : decode cX4_wordAt 0 = .ok (.iconst 0, 1) := by decide +kernel
theorem dX4_wordAt_1 : decode cX4_wordAt 1 = .ok (.istore_n 2, 1) := by decide +kernel
theorem dX4_wordAt_2 : decode cX4_wordAt 2 = .ok (.iconst 0, 1) := by decide +kernel
theorem dX4_wordAt_3 : decode cX4_wordAt 3 = .ok (.istore_n 3, 1) := by decide +kernel
theorem dX4_wordAt_4 : decode cX4_wordAt 4 = .ok (.iload_n 3, 1) := by decide +kernel
theorem dX4_wordAt_5 : decode cX4_wordAt 5 = .ok (.iconst 3, 1) := by decide +kernel
theorem dX4_wordAt_6 : decode cX4_wordAt 6 = .ok (.if_icmp .ge 43, 3) := by decide +kernel
theorem dX4_wordAt_9 : decode cX4_wordAt 9 = .ok (.iload_n 1, 1) := by decide +kernel
theorem dX4_wordAt_10 : decode cX4_wordAt 10 = .ok (.iload_n 3, 1) := by decide +kernel
theorem dX4_wordAt_11 : decode cX4_wordAt 11 = .ok (.iadd, 1) := by decide +kernel
theorem dX4_wordAt_12 : decode cX4_wordAt 12 = .ok (.istore 4, 2) := by decide +kernel
theorem dX4_wordAt_14 : decode cX4_wordAt 14 = .ok (.iload_n 2, 1) := by decide +kernel
theorem dX4_wordAt_15 : decode cX4_wordAt 15 = .ok (.bipush 8, 2) := by decide +kernel
theorem dX4_wordAt_17 : decode cX4_wordAt 17 = .ok (.ishl, 1) := by decide +kernel
theorem dX4_wordAt_18 : decode cX4_wordAt 18 = .ok (.iload 4, 2) := by decide +kernel
theorem dX4_wordAt_20 : decode cX4_wordAt 20 = .ok (.ifCond .lt 20, 3) := by decide +kernel
theorem dX4_wordAt_23 : decode cX4_wordAt 23 = .ok (.iload 4, 2) := by decide +kernel
theorem dX4_wordAt_25 : decode cX4_wordAt 25 = .ok (.bipush 64, 2) := by decide +kernel
theorem dX4_wordAt_27 : decode cX4_wordAt 27 = .ok (.if_icmp .ge 13, 3) := by decide +kernel
theorem dX4_wordAt_30 : decode cX4_wordAt 30 = .ok (.aload_n 0, 1) := by decide +kernel
theorem dX4_wordAt_31 : decode cX4_wordAt 31 = .ok (.getfield 19, 3) := by decide +kernel
theorem dX4_wordAt_34 : decode cX4_wordAt 34 = .ok (.iload 4, 2) := by decide +kernel
theorem dX4_wordAt_36 : decode cX4_wordAt 36 = .ok (.iaload, 1) := by decide +kernel
theorem dX4_wordAt_37 : decode cX4_wordAt 37 = .ok (.goto 4, 3) := by decide +kernel
theorem dX4_wordAt_40 : decode cX4_wordAt 40 = .ok (.iconst 0, 1) := by decide +kernel
theorem dX4_wordAt_41 : decode cX4_wordAt 41 = .ok (.ior, 1) := by decide +kernel
theorem dX4_wordAt_42 : decode cX4_wordAt 42 = .ok (.istore_n 2, 1) := by decide +kernel
theorem dX4_wordAt_43 : decode cX4_wordAt 43 = .ok (.iinc 3 1, 3) := by decide +kernel
theorem dX4_wordAt_46 : decode cX4_wordAt 46 = .ok (.goto (-42), 3) := by decide +kernel
theorem dX4_wordAt_49 : decode cX4_wordAt 49 = .ok (.iload_n 2, 1) := by decide +kernel
theorem dX4_wordAt_50 : decode cX4_wordAt 50 = .ok (.ireturn, 1) := by decide +kernel
theorem dX4_operandAt_0 : decode cX4_operandAt 0 = .ok (.aload_n 2, 1) := by decide +kernel
theorem dX4_operandAt_1 : decode cX4_operandAt 1 = .ok (.getfield 96, 3) := by decide +kernel
theorem dX4_operandAt_4 : decode cX4_operandAt 4 = .ok (.iload_n 3, 1) := by decide +kernel
theorem dX4_operandAt_5 : decode cX4_operandAt 5 = .ok (.aaload, 1) := by decide +kernel
theorem dX4_operandAt_6 : decode cX4_operandAt 6 = .ok (.aload_n 0, 1) := by decide +kernel
theorem dX4_operandAt_7 : decode cX4_operandAt 7 = .ok (.iload_n 1, 1) := by decide +kernel
theorem dX4_operandAt_8 : decode cX4_operandAt 8 = .ok (.invokevirtual 218, 3) := by decide +kernel
theorem dX4_operandAt_11 : decode cX4_operandAt 11 = .ok (.iload_n 1, 1) := by decide +kernel
theorem dX4_operandAt_12 : decode cX4_operandAt 12 = .ok (.aload_n 2, 1) := by decide +kernel
theorem dX4_operandAt_13 : decode cX4_operandAt 13 = .ok (.getfield 221, 3) := by decide +kernel
theorem dX4_operandAt_16 : decode cX4_operandAt 16 = .ok (.iadd, 1) := by decide +kernel
theorem dX4_operandAt_17 : decode cX4_operandAt 17 = .ok (.invokevirtual 231, 3) := by decide +kernel
theorem dX4_operandAt_20 : decode cX4_operandAt 20 = .ok (.ireturn, 1) := by decide +kernel
theorem dX4_writeInstruction_0 : decode cX4_writeInstruction 0 = .ok (.aload_n 0, 1) := by decide +kernel
theorem dX4_writeInstruction_1 : decode cX4_writeInstruction 1 = .ok (.getfield 16, 3) := by decide +kernel
theorem dX4_writeInstruction_4 : decode cX4_writeInstruction 4 = .ok (.aload_n 2, 1) := by decide +kernel
theorem dX4_writeInstruction_5 : decode cX4_writeInstruction 5 = .ok (.getfield 70, 3) := by decide +kernel
theorem dX4_writeInstruction_8 : decode cX4_writeInstruction 8 = .ok (.invokevirtual 234, 3) := by decide +kernel
theorem dX4_writeInstruction_11 : decode cX4_writeInstruction 11 = .ok (.iconst 0, 1) := by decide +kernel
theorem dX4_writeInstruction_12 : decode cX4_writeInstruction 12 = .ok (.istore_n 3, 1) := by decide +kernel
theorem dX4_writeInstruction_13 : decode cX4_writeInstruction 13 = .ok (.iload_n 3, 1) := by decide +kernel
theorem dX4_writeInstruction_14 : decode cX4_writeInstruction 14 = .ok (.aload_n 2, 1) := by decide +kernel
theorem dX4_writeInstruction_15 : decode cX4_writeInstruction 15 = .ok (.getfield 73, 3) := by decide +kernel
theorem dX4_writeInstruction_18 : decode cX4_writeInstruction 18 = .ok (.if_icmp .ge 42, 3) := by decide +kernel
theorem dX4_writeInstruction_21 : decode cX4_writeInstruction 21 = .ok (.aload_n 0, 1) := by decide +kernel
theorem dX4_writeInstruction_22 : decode cX4_writeInstruction 22 = .ok (.getfield 16, 3) := by decide +kernel
theorem dX4_writeInstruction_25 : decode cX4_writeInstruction 25 = .ok (.iload_n 3, 1) := by decide +kernel
theorem dX4_writeInstruction_26 : decode cX4_writeInstruction 26 = .ok (.ifCond .ne 8, 3) := by decide +kernel
theorem dX4_writeInstruction_29 : decode cX4_writeInstruction 29 = .ok (.bipush 32, 2) := by decide +kernel
theorem dX4_writeInstruction_31 : decode cX4_writeInstruction 31 = .ok (.goto 5, 3) := by decide +kernel
theorem dX4_writeInstruction_34 : decode cX4_writeInstruction 34 = .ok (.bipush 44, 2) := by decide +kernel
theorem dX4_writeInstruction_36 : decode cX4_writeInstruction 36 = .ok (.invokevirtual 41, 3) := by decide +kernel
theorem dX4_writeInstruction_39 : decode cX4_writeInstruction 39 = .ok (.pop, 1) := by decide +kernel
theorem dX4_writeInstruction_40 : decode cX4_writeInstruction 40 = .ok (.aload_n 0, 1) := by decide +kernel
theorem dX4_writeInstruction_41 : decode cX4_writeInstruction 41 = .ok (.getfield 16, 3) := by decide +kernel
theorem dX4_writeInstruction_44 : decode cX4_writeInstruction 44 = .ok (.aload_n 0, 1) := by decide +kernel
theorem dX4_writeInstruction_45 : decode cX4_writeInstruction 45 = .ok (.iload_n 1, 1) := by decide +kernel
theorem dX4_writeInstruction_46 : decode cX4_writeInstruction 46 = .ok (.aload_n 2, 1) := by decide +kernel
theorem dX4_writeInstruction_47 : decode cX4_writeInstruction 47 = .ok (.iload_n 3, 1) := by decide +kernel
theorem dX4_writeInstruction_48 : decode cX4_writeInstruction 48 = .ok (.invokevirtual 134, 3) := by decide +kernel
theorem dX4_writeInstruction_51 : decode cX4_writeInstruction 51 = .ok (.invokevirtual 237, 3) := by decide +kernel
theorem dX4_writeInstruction_54 : decode cX4_writeInstruction 54 = .ok (.iinc 3 1, 3) := by decide +kernel
theorem dX4_writeInstruction_57 : decode cX4_writeInstruction 57 = .ok (.goto (-44), 3) := by decide +kernel
theorem dX4_writeInstruction_60 : decode cX4_writeInstruction 60 = .ok (.return_, 1) := by decide +kernel
theorem dX4_readLine_0 : decode cX4_readLine 0 = .ok (.aload_n 1, 1) := by decide +kernel
theorem dX4_readLine_1 : decode cX4_readLine 1 = .ok (.iconst 0, 1) := by decide +kernel
theorem dX4_readLine_2 : decode cX4_readLine 2 = .ok (.putfield 240, 3) := by decide +kernel
theorem dX4_readLine_5 : decode cX4_readLine 5 = .ok (.aload_n 1, 1) := by decide +kernel
theorem dX4_readLine_6 : decode cX4_readLine 6 = .ok (.iconst 0, 1) := by decide +kernel
theorem dX4_readLine_7 : decode cX4_readLine 7 = .ok (.putfield 241, 3) := by decide +kernel
theorem dX4_readLine_10 : decode cX4_readLine 10 = .ok (.aload_n 1, 1) := by decide +kernel
theorem dX4_readLine_11 : decode cX4_readLine 11 = .ok (.aload_n 0, 1) := by decide +kernel
theorem dX4_readLine_12 : decode cX4_readLine 12 = .ok (.getfield 10, 3) := by decide +kernel
theorem dX4_readLine_15 : decode cX4_readLine 15 = .ok (.invokevirtual 242, 3) := by decide +kernel
theorem dX4_readLine_18 : decode cX4_readLine 18 = .ok (.putfield 155, 3) := by decide +kernel
theorem dX4_readLine_21 : decode cX4_readLine 21 = .ok (.aload_n 1, 1) := by decide +kernel
theorem dX4_readLine_22 : decode cX4_readLine 22 = .ok (.getfield 155, 3) := by decide +kernel
theorem dX4_readLine_25 : decode cX4_readLine 25 = .ok (.iconst (-1), 1) := by decide +kernel
theorem dX4_readLine_26 : decode cX4_readLine 26 = .ok (.if_icmp .eq 29, 3) := by decide +kernel
theorem dX4_readLine_29 : decode cX4_readLine 29 = .ok (.aload_n 0, 1) := by decide +kernel
theorem dX4_readLine_30 : decode cX4_readLine 30 = .ok (.getfield 10, 3) := by decide +kernel
theorem dX4_readLine_33 : decode cX4_readLine 33 = .ok (.bipush 58, 2) := by decide +kernel
theorem dX4_readLine_35 : decode cX4_readLine 35 = .ok (.invokevirtual 196, 3) := by decide +kernel
theorem dX4_readLine_38 : decode cX4_readLine 38 = .ok (.ifCond .ne 5, 3) := by decide +kernel
theorem dX4_readLine_41 : decode cX4_readLine 41 = .ok (.iconst 0, 1) := by decide +kernel
theorem dX4_readLine_42 : decode cX4_readLine 42 = .ok (.ireturn, 1) := by decide +kernel
theorem dX4_readLine_43 : decode cX4_readLine 43 = .ok (.aload_n 0, 1) := by decide +kernel
theorem dX4_readLine_44 : decode cX4_readLine 44 = .ok (.getfield 10, 3) := by decide +kernel
theorem dX4_readLine_47 : decode cX4_readLine 47 = .ok (.invokevirtual 199, 3) := by decide +kernel
theorem dX4_readLine_50 : decode cX4_readLine 50 = .ok (.ifCond .ne 5, 3) := by decide +kernel
theorem dX4_readLine_53 : decode cX4_readLine 53 = .ok (.iconst 1, 1) := by decide +kernel
theorem dX4_readLine_54 : decode cX4_readLine 54 = .ok (.ireturn, 1) := by decide +kernel
theorem dX4_readLine_55 : decode cX4_readLine 55 = .ok (.aload_n 1, 1) := by decide +kernel
theorem dX4_readLine_56 : decode cX4_readLine 56 = .ok (.aload_n 0, 1) := by decide +kernel
theorem dX4_readLine_57 : decode cX4_readLine 57 = .ok (.getfield 10, 3) := by decide +kernel
theorem dX4_readLine_60 : decode cX4_readLine 60 = .ok (.invokevirtual 193, 3) := by decide +kernel
theorem dX4_readLine_63 : decode cX4_readLine 63 = .ok (.putfield 240, 3) := by decide +kernel
theorem dX4_readLine_66 : decode cX4_readLine 66 = .ok (.aload_n 1, 1) := by decide +kernel
theorem dX4_readLine_67 : decode cX4_readLine 67 = .ok (.getfield 240, 3) := by decide +kernel
theorem dX4_readLine_70 : decode cX4_readLine 70 = .ok (.ifCond .ne 5, 3) := by decide +kernel
theorem dX4_readLine_73 : decode cX4_readLine 73 = .ok (.iconst 0, 1) := by decide +kernel
theorem dX4_readLine_74 : decode cX4_readLine 74 = .ok (.ireturn, 1) := by decide +kernel
theorem dX4_readLine_75 : decode cX4_readLine 75 = .ok (.aload_n 0, 1) := by decide +kernel
theorem dX4_readLine_76 : decode cX4_readLine 76 = .ok (.getfield 10, 3) := by decide +kernel
theorem dX4_readLine_79 : decode cX4_readLine 79 = .ok (.invokevirtual 199, 3) := by decide +kernel
theorem dX4_readLine_82 : decode cX4_readLine 82 = .ok (.ifCond .eq 23, 3) := by decide +kernel
theorem dX4_readLine_85 : decode cX4_readLine 85 = .ok (.aload_n 0, 1) := by decide +kernel
theorem dX4_readLine_86 : decode cX4_readLine 86 = .ok (.getfield 10, 3) := by decide +kernel
theorem dX4_readLine_89 : decode cX4_readLine 89 = .ok (.bipush 32, 2) := by decide +kernel
theorem dX4_readLine_91 : decode cX4_readLine 91 = .ok (.invokevirtual 196, 3) := by decide +kernel
theorem dX4_readLine_94 : decode cX4_readLine 94 = .ok (.ifCond .eq 15, 3) := by decide +kernel
theorem dX4_readLine_97 : decode cX4_readLine 97 = .ok (.aload_n 0, 1) := by decide +kernel
theorem dX4_readLine_98 : decode cX4_readLine 98 = .ok (.aload_n 1, 1) := by decide +kernel
theorem dX4_readLine_99 : decode cX4_readLine 99 = .ok (.invokevirtual 245, 3) := by decide +kernel
theorem dX4_readLine_102 : decode cX4_readLine 102 = .ok (.ifCond .eq 7, 3) := by decide +kernel
theorem dX4_readLine_105 : decode cX4_readLine 105 = .ok (.iconst 1, 1) := by decide +kernel
theorem dX4_readLine_106 : decode cX4_readLine 106 = .ok (.goto 4, 3) := by decide +kernel
theorem dX4_readLine_109 : decode cX4_readLine 109 = .ok (.iconst 0, 1) := by decide +kernel
theorem dX4_readLine_110 : decode cX4_readLine 110 = .ok (.ireturn, 1) := by decide +kernel
theorem dX4_readOperands_0 : decode cX4_readOperands 0 = .ok (.iconst 0, 1) := by decide +kernel
theorem dX4_readOperands_1 : decode cX4_readOperands 1 = .ok (.istore_n 2, 1) := by decide +kernel
theorem dX4_readOperands_2 : decode cX4_readOperands 2 = .ok (.iload_n 2, 1) := by decide +kernel
theorem dX4_readOperands_3 : decode cX4_readOperands 3 = .ok (.iconst 3, 1) := by decide +kernel
theorem dX4_readOperands_4 : decode cX4_readOperands 4 = .ok (.if_icmp .ge 110, 3) := by decide +kernel
theorem dX4_readOperands_7 : decode cX4_readOperands 7 = .ok (.aload_n 1, 1) := by decide +kernel
theorem dX4_readOperands_8 : decode cX4_readOperands 8 = .ok (.getfield 248, 3) := by decide +kernel
theorem dX4_readOperands_11 : decode cX4_readOperands 11 = .ok (.iload_n 2, 1) := by decide +kernel
theorem dX4_readOperands_12 : decode cX4_readOperands 12 = .ok (.aload_n 0, 1) := by decide +kernel
theorem dX4_readOperands_13 : decode cX4_readOperands 13 = .ok (.getfield 10, 3) := by decide +kernel
theorem dX4_readOperands_16 : decode cX4_readOperands 16 = .ok (.invokevirtual 242, 3) := by decide +kernel
theorem dX4_readOperands_19 : decode cX4_readOperands 19 = .ok (.iastore, 1) := by decide +kernel
theorem dX4_readOperands_20 : decode cX4_readOperands 20 = .ok (.aload_n 1, 1) := by decide +kernel
theorem dX4_readOperands_21 : decode cX4_readOperands 21 = .ok (.getfield 248, 3) := by decide +kernel
theorem dX4_readOperands_24 : decode cX4_readOperands 24 = .ok (.iload_n 2, 1) := by decide +kernel
theorem dX4_readOperands_25 : decode cX4_readOperands 25 = .ok (.iaload, 1) := by decide +kernel
theorem dX4_readOperands_26 : decode cX4_readOperands 26 = .ok (.iconst (-1), 1) := by decide +kernel
theorem dX4_readOperands_27 : decode cX4_readOperands 27 = .ok (.if_icmp .ne 48, 3) := by decide +kernel
theorem dX4_readOperands_30 : decode cX4_readOperands 30 = .ok (.aload_n 0, 1) := by decide +kernel
theorem dX4_readOperands_31 : decode cX4_readOperands 31 = .ok (.getfield 10, 3) := by decide +kernel
theorem dX4_readOperands_34 : decode cX4_readOperands 34 = .ok (.bipush 45, 2) := by decide +kernel
theorem dX4_readOperands_36 : decode cX4_readOperands 36 = .ok (.invokevirtual 196, 3) := by decide +kernel
theorem dX4_readOperands_39 : decode cX4_readOperands 39 = .ok (.istore_n 3, 1) := by decide +kernel
theorem dX4_readOperands_40 : decode cX4_readOperands 40 = .ok (.aload_n 0, 1) := by decide +kernel
theorem dX4_readOperands_41 : decode cX4_readOperands 41 = .ok (.getfield 10, 3) := by decide +kernel
theorem dX4_readOperands_44 : decode cX4_readOperands 44 = .ok (.invokevirtual 251, 3) := by decide +kernel
theorem dX4_readOperands_47 : decode cX4_readOperands 47 = .ok (.istore 4, 2) := by decide +kernel
theorem dX4_readOperands_49 : decode cX4_readOperands 49 = .ok (.iload 4, 2) := by decide +kernel
theorem dX4_readOperands_51 : decode cX4_readOperands 51 = .ok (.iconst (-1), 1) := by decide +kernel
theorem dX4_readOperands_52 : decode cX4_readOperands 52 = .ok (.if_icmp .ne 5, 3) := by decide +kernel
theorem dX4_readOperands_55 : decode cX4_readOperands 55 = .ok (.iconst 0, 1) := by decide +kernel
theorem dX4_readOperands_56 : decode cX4_readOperands 56 = .ok (.ireturn, 1) := by decide +kernel
theorem dX4_readOperands_57 : decode cX4_readOperands 57 = .ok (.aload_n 1, 1) := by decide +kernel
theorem dX4_readOperands_58 : decode cX4_readOperands 58 = .ok (.getfield 254, 3) := by decide +kernel
theorem dX4_readOperands_61 : decode cX4_readOperands 61 = .ok (.iload_n 2, 1) := by decide +kernel
theorem dX4_readOperands_62 : decode cX4_readOperands 62 = .ok (.iload_n 3, 1) := by decide +kernel
theorem dX4_readOperands_63 : decode cX4_readOperands 63 = .ok (.ifCond .eq 9, 3) := by decide +kernel
theorem dX4_readOperands_66 : decode cX4_readOperands 66 = .ok (.iload 4, 2) := by decide +kernel
theorem dX4_readOperands_68 : decode cX4_readOperands 68 = .ok (.ineg, 1) := by decide +kernel
theorem dX4_readOperands_69 : decode cX4_readOperands 69 = .ok (.goto 5, 3) := by decide +kernel
theorem dX4_readOperands_72 : decode cX4_readOperands 72 = .ok (.iload 4, 2) := by decide +kernel
theorem dX4_readOperands_74 : decode cX4_readOperands 74 = .ok (.iastore, 1) := by decide +kernel
theorem dX4_readOperands_75 : decode cX4_readOperands 75 = .ok (.aload_n 1, 1) := by decide +kernel
theorem dX4_readOperands_76 : decode cX4_readOperands 76 = .ok (.iload_n 2, 1) := by decide +kernel
theorem dX4_readOperands_77 : decode cX4_readOperands 77 = .ok (.iconst 1, 1) := by decide +kernel
theorem dX4_readOperands_78 : decode cX4_readOperands 78 = .ok (.iadd, 1) := by decide +kernel
theorem dX4_readOperands_79 : decode cX4_readOperands 79 = .ok (.putfield 241, 3) := by decide +kernel
theorem dX4_readOperands_82 : decode cX4_readOperands 82 = .ok (.aload_n 0, 1) := by decide +kernel
theorem dX4_readOperands_83 : decode cX4_readOperands 83 = .ok (.getfield 10, 3) := by decide +kernel
theorem dX4_readOperands_86 : decode cX4_readOperands 86 = .ok (.invokevirtual 199, 3) := by decide +kernel
theorem dX4_readOperands_89 : decode cX4_readOperands 89 = .ok (.ifCond .ne 5, 3) := by decide +kernel
theorem dX4_readOperands_92 : decode cX4_readOperands 92 = .ok (.iconst 1, 1) := by decide +kernel
theorem dX4_readOperands_93 : decode cX4_readOperands 93 = .ok (.ireturn, 1) := by decide +kernel
theorem dX4_readOperands_94 : decode cX4_readOperands 94 = .ok (.aload_n 0, 1) := by decide +kernel
theorem dX4_readOperands_95 : decode cX4_readOperands 95 = .ok (.getfield 10, 3) := by decide +kernel
theorem dX4_readOperands_98 : decode cX4_readOperands 98 = .ok (.bipush 44, 2) := by decide +kernel
theorem dX4_readOperands_100 : decode cX4_readOperands 100 = .ok (.invokevirtual 196, 3) := by decide +kernel
theorem dX4_readOperands_103 : decode cX4_readOperands 103 = .ok (.ifCond .ne 5, 3) := by decide +kernel
theorem dX4_readOperands_106 : decode cX4_readOperands 106 = .ok (.iconst 0, 1) := by decide +kernel
theorem dX4_readOperands_107 : decode cX4_readOperands 107 = .ok (.ireturn, 1) := by decide +kernel
theorem dX4_readOperands_108 : decode cX4_readOperands 108 = .ok (.iinc 2 1, 3) := by decide +kernel
theorem dX4_readOperands_111 : decode cX4_readOperands 111 = .ok (.goto (-109), 3) := by decide +kernel
theorem dX4_readOperands_114 : decode cX4_readOperands 114 = .ok (.iconst 0, 1) := by decide +kernel
theorem dX4_readOperands_115 : decode cX4_readOperands 115 = .ok (.ireturn, 1) := by decide +kernel
theorem dX4_findLabel_0 : decode cX4_findLabel 0 = .ok (.iconst 0, 1) := by decide +kernel
theorem dX4_findLabel_1 : decode cX4_findLabel 1 = .ok (.istore_n 2, 1) := by decide +kernel
theorem dX4_findLabel_2 : decode cX4_findLabel 2 = .ok (.iload_n 2, 1) := by decide +kernel
theorem dX4_findLabel_3 : decode cX4_findLabel 3 = .ok (.aload_n 0, 1) := by decide +kernel
theorem dX4_findLabel_4 : decode cX4_findLabel 4 = .ok (.getfield 146, 3) := by decide +kernel
theorem dX4_findLabel_7 : decode cX4_findLabel 7 = .ok (.if_icmp .ge 24, 3) := by decide +kernel
theorem dX4_findLabel_10 : decode cX4_findLabel 10 = .ok (.aload_n 0, 1) := by decide +kernel
theorem dX4_findLabel_11 : decode cX4_findLabel 11 = .ok (.getfield 32, 3) := by decide +kernel
theorem dX4_findLabel_14 : decode cX4_findLabel 14 = .ok (.iload_n 2, 1) := by decide +kernel
theorem dX4_findLabel_15 : decode cX4_findLabel 15 = .ok (.aaload, 1) := by decide +kernel
theorem dX4_findLabel_16 : decode cX4_findLabel 16 = .ok (.getfield 155, 3) := by decide +kernel
theorem dX4_findLabel_19 : decode cX4_findLabel 19 = .ok (.iload_n 1, 1) := by decide +kernel
theorem dX4_findLabel_20 : decode cX4_findLabel 20 = .ok (.if_icmp .ne 5, 3) := by decide +kernel
theorem dX4_findLabel_23 : decode cX4_findLabel 23 = .ok (.iload_n 2, 1) := by decide +kernel
theorem dX4_findLabel_24 : decode cX4_findLabel 24 = .ok (.ireturn, 1) := by decide +kernel
theorem dX4_findLabel_25 : decode cX4_findLabel 25 = .ok (.iinc 2 1, 3) := by decide +kernel
theorem dX4_findLabel_28 : decode cX4_findLabel 28 = .ok (.goto (-26), 3) := by decide +kernel
theorem dX4_findLabel_31 : decode cX4_findLabel 31 = .ok (.iconst (-1), 1) := by decide +kernel
theorem dX4_findLabel_32 : decode cX4_findLabel 32 = .ok (.ireturn, 1) := by decide +kernel
theorem dX4_chooseForms_0 : decode cX4_chooseForms 0 = .ok (.iconst (-1), 1) := by decide +kernel
theorem dX4_chooseForms_1 : decode cX4_chooseForms 1 = .ok (.istore_n 1, 1) := by decide +kernel
theorem dX4_chooseForms_2 : decode cX4_chooseForms 2 = .ok (.iconst 0, 1) := by decide +kernel
theorem dX4_chooseForms_3 : decode cX4_chooseForms 3 = .ok (.istore_n 2, 1) := by decide +kernel
theorem dX4_chooseForms_4 : decode cX4_chooseForms 4 = .ok (.iload_n 2, 1) := by decide +kernel
theorem dX4_chooseForms_5 : decode cX4_chooseForms 5 = .ok (.aload_n 0, 1) := by decide +kernel
theorem dX4_chooseForms_6 : decode cX4_chooseForms 6 = .ok (.getfield 146, 3) := by decide +kernel
theorem dX4_chooseForms_9 : decode cX4_chooseForms 9 = .ok (.if_icmp .ge 82, 3) := by decide +kernel
theorem dX4_chooseForms_12 : decode cX4_chooseForms 12 = .ok (.aload_n 0, 1) := by decide +kernel
theorem dX4_chooseForms_13 : decode cX4_chooseForms 13 = .ok (.getfield 32, 3) := by decide +kernel
theorem dX4_chooseForms_16 : decode cX4_chooseForms 16 = .ok (.iload_n 2, 1) := by decide +kernel
theorem dX4_chooseForms_17 : decode cX4_chooseForms 17 = .ok (.aaload, 1) := by decide +kernel
theorem dX4_chooseForms_18 : decode cX4_chooseForms 18 = .ok (.astore_n 3, 1) := by decide +kernel
theorem dX4_chooseForms_19 : decode cX4_chooseForms 19 = .ok (.aload_n 3, 1) := by decide +kernel
theorem dX4_chooseForms_20 : decode cX4_chooseForms 20 = .ok (.getfield 240, 3) := by decide +kernel
theorem dX4_chooseForms_23 : decode cX4_chooseForms 23 = .ok (.ifCond .ne 7, 3) := by decide +kernel
theorem dX4_chooseForms_26 : decode cX4_chooseForms 26 = .ok (.iconst (-1), 1) := by decide +kernel
theorem dX4_chooseForms_27 : decode cX4_chooseForms 27 = .ok (.goto 15, 3) := by decide +kernel
theorem dX4_chooseForms_30 : decode cX4_chooseForms 30 = .ok (.aload_n 0, 1) := by decide +kernel
theorem dX4_chooseForms_31 : decode cX4_chooseForms 31 = .ok (.aload_n 3, 1) := by decide +kernel
theorem dX4_chooseForms_32 : decode cX4_chooseForms 32 = .ok (.getfield 240, 3) := by decide +kernel
theorem dX4_chooseForms_35 : decode cX4_chooseForms 35 = .ok (.aload_n 3, 1) := by decide +kernel
theorem dX4_chooseForms_36 : decode cX4_chooseForms 36 = .ok (.getfield 241, 3) := by decide +kernel
theorem dX4_chooseForms_39 : decode cX4_chooseForms 39 = .ok (.invokevirtual 76, 3) := by decide +kernel
theorem dX4_chooseForms_42 : decode cX4_chooseForms 42 = .ok (.istore 4, 2) := by decide +kernel
theorem dX4_chooseForms_44 : decode cX4_chooseForms 44 = .ok (.aload_n 3, 1) := by decide +kernel
theorem dX4_chooseForms_45 : decode cX4_chooseForms 45 = .ok (.iload 4, 2) := by decide +kernel
theorem dX4_chooseForms_47 : decode cX4_chooseForms 47 = .ok (.iconst (-1), 1) := by decide +kernel
theorem dX4_chooseForms_48 : decode cX4_chooseForms 48 = .ok (.if_icmp .ne 7, 3) := by decide +kernel
theorem dX4_chooseForms_51 : decode cX4_chooseForms 51 = .ok (.aconst_null, 1) := by decide +kernel
theorem dX4_chooseForms_52 : decode cX4_chooseForms 52 = .ok (.goto 10, 3) := by decide +kernel
theorem dX4_chooseForms_55 : decode cX4_chooseForms 55 = .ok (.aload_n 0, 1) := by decide +kernel
theorem dX4_chooseForms_56 : decode cX4_chooseForms 56 = .ok (.getfield 25, 3) := by decide +kernel
theorem dX4_chooseForms_59 : decode cX4_chooseForms 59 = .ok (.iload 4, 2) := by decide +kernel
theorem dX4_chooseForms_61 : decode cX4_chooseForms 61 = .ok (.aaload, 1) := by decide +kernel
theorem dX4_chooseForms_62 : decode cX4_chooseForms 62 = .ok (.putfield 257, 3) := by decide +kernel
theorem dX4_chooseForms_65 : decode cX4_chooseForms 65 = .ok (.aload_n 3, 1) := by decide +kernel
theorem dX4_chooseForms_66 : decode cX4_chooseForms 66 = .ok (.getfield 240, 3) := by decide +kernel
theorem dX4_chooseForms_69 : decode cX4_chooseForms 69 = .ok (.ifCond .eq 16, 3) := by decide +kernel
theorem dX4_chooseForms_72 : decode cX4_chooseForms 72 = .ok (.iload 4, 2) := by decide +kernel
theorem dX4_chooseForms_74 : decode cX4_chooseForms 74 = .ok (.iconst (-1), 1) := by decide +kernel
theorem dX4_chooseForms_75 : decode cX4_chooseForms 75 = .ok (.if_icmp .ne 10, 3) := by decide +kernel
theorem dX4_chooseForms_78 : decode cX4_chooseForms 78 = .ok (.iload_n 1, 1) := by decide +kernel
theorem dX4_chooseForms_79 : decode cX4_chooseForms 79 = .ok (.iconst (-1), 1) := by decide +kernel
theorem dX4_chooseForms_80 : decode cX4_chooseForms 80 = .ok (.if_icmp .ne 5, 3) := by decide +kernel
theorem dX4_chooseForms_83 : decode cX4_chooseForms 83 = .ok (.iload_n 2, 1) := by decide +kernel
theorem dX4_chooseForms_84 : decode cX4_chooseForms 84 = .ok (.istore_n 1, 1) := by decide +kernel
theorem dX4_chooseForms_85 : decode cX4_chooseForms 85 = .ok (.iinc 2 1, 3) := by decide +kernel
theorem dX4_chooseForms_88 : decode cX4_chooseForms 88 = .ok (.goto (-84), 3) := by decide +kernel
theorem dX4_chooseForms_91 : decode cX4_chooseForms 91 = .ok (.iload_n 1, 1) := by decide +kernel
theorem dX4_chooseForms_92 : decode cX4_chooseForms 92 = .ok (.ireturn, 1) := by decide +kernel
theorem dX4_firstWithUnknownLabel_0 : decode cX4_firstWithUnknownLabel 0 = .ok (.iconst 0, 1) := by decide +kernel
theorem dX4_firstWithUnknownLabel_1 : decode cX4_firstWithUnknownLabel 1 = .ok (.istore_n 1, 1) := by decide +kernel
theorem dX4_firstWithUnknownLabel_2 : decode cX4_firstWithUnknownLabel 2 = .ok (.iload_n 1, 1) := by decide +kernel
theorem dX4_firstWithUnknownLabel_3 : decode cX4_firstWithUnknownLabel 3 = .ok (.aload_n 0, 1) := by decide +kernel
theorem dX4_firstWithUnknownLabel_4 : decode cX4_firstWithUnknownLabel 4 = .ok (.getfield 146, 3) := by decide +kernel
theorem dX4_firstWithUnknownLabel_7 : decode cX4_firstWithUnknownLabel 7 = .ok (.if_icmp .ge 58, 3) := by decide +kernel
theorem dX4_firstWithUnknownLabel_10 : decode cX4_firstWithUnknownLabel 10 = .ok (.iconst 0, 1) := by decide +kernel
theorem dX4_firstWithUnknownLabel_11 : decode cX4_firstWithUnknownLabel 11 = .ok (.istore_n 2, 1) := by decide +kernel
theorem dX4_firstWithUnknownLabel_12 : decode cX4_firstWithUnknownLabel 12 = .ok (.iload_n 2, 1) := by decide +kernel
theorem dX4_firstWithUnknownLabel_13 : decode cX4_firstWithUnknownLabel 13 = .ok (.aload_n 0, 1) := by decide +kernel
theorem dX4_firstWithUnknownLabel_14 : decode cX4_firstWithUnknownLabel 14 = .ok (.getfield 32, 3) := by decide +kernel
theorem dX4_firstWithUnknownLabel_17 : decode cX4_firstWithUnknownLabel 17 = .ok (.iload_n 1, 1) := by decide +kernel
theorem dX4_firstWithUnknownLabel_18 : decode cX4_firstWithUnknownLabel 18 = .ok (.aaload, 1) := by decide +kernel
theorem dX4_firstWithUnknownLabel_19 : decode cX4_firstWithUnknownLabel 19 = .ok (.getfield 241, 3) := by decide +kernel
theorem dX4_firstWithUnknownLabel_22 : decode cX4_firstWithUnknownLabel 22 = .ok (.if_icmp .ge 37, 3) := by decide +kernel
theorem dX4_firstWithUnknownLabel_25 : decode cX4_firstWithUnknownLabel 25 = .ok (.aload_n 0, 1) := by decide +kernel
theorem dX4_firstWithUnknownLabel_26 : decode cX4_firstWithUnknownLabel 26 = .ok (.getfield 32, 3) := by decide +kernel
theorem dX4_firstWithUnknownLabel_29 : decode cX4_firstWithUnknownLabel 29 = .ok (.iload_n 1, 1) := by decide +kernel
theorem dX4_firstWithUnknownLabel_30 : decode cX4_firstWithUnknownLabel 30 = .ok (.aaload, 1) := by decide +kernel
theorem dX4_firstWithUnknownLabel_31 : decode cX4_firstWithUnknownLabel 31 = .ok (.getfield 248, 3) := by decide +kernel
theorem dX4_firstWithUnknownLabel_34 : decode cX4_firstWithUnknownLabel 34 = .ok (.iload_n 2, 1) := by decide +kernel
theorem dX4_firstWithUnknownLabel_35 : decode cX4_firstWithUnknownLabel 35 = .ok (.iaload, 1) := by decide +kernel
theorem dX4_firstWithUnknownLabel_36 : decode cX4_firstWithUnknownLabel 36 = .ok (.istore_n 3, 1) := by decide +kernel
theorem dX4_firstWithUnknownLabel_37 : decode cX4_firstWithUnknownLabel 37 = .ok (.iload_n 3, 1) := by decide +kernel
theorem dX4_firstWithUnknownLabel_38 : decode cX4_firstWithUnknownLabel 38 = .ok (.iconst (-1), 1) := by decide +kernel
theorem dX4_firstWithUnknownLabel_39 : decode cX4_firstWithUnknownLabel 39 = .ok (.if_icmp .eq 14, 3) := by decide +kernel
theorem dX4_firstWithUnknownLabel_42 : decode cX4_firstWithUnknownLabel 42 = .ok (.aload_n 0, 1) := by decide +kernel
theorem dX4_firstWithUnknownLabel_43 : decode cX4_firstWithUnknownLabel 43 = .ok (.iload_n 3, 1) := by decide +kernel
theorem dX4_firstWithUnknownLabel_44 : decode cX4_firstWithUnknownLabel 44 = .ok (.invokevirtual 158, 3) := by decide +kernel
theorem dX4_firstWithUnknownLabel_47 : decode cX4_firstWithUnknownLabel 47 = .ok (.iconst (-1), 1) := by decide +kernel
theorem dX4_firstWithUnknownLabel_48 : decode cX4_firstWithUnknownLabel 48 = .ok (.if_icmp .ne 5, 3) := by decide +kernel
theorem dX4_firstWithUnknownLabel_51 : decode cX4_firstWithUnknownLabel 51 = .ok (.iload_n 1, 1) := by decide +kernel
theorem dX4_firstWithUnknownLabel_52 : decode cX4_firstWithUnknownLabel 52 = .ok (.ireturn, 1) := by decide +kernel
theorem dX4_firstWithUnknownLabel_53 : decode cX4_firstWithUnknownLabel 53 = .ok (.iinc 2 1, 3) := by decide +kernel
theorem dX4_firstWithUnknownLabel_56 : decode cX4_firstWithUnknownLabel 56 = .ok (.goto (-44), 3) := by decide +kernel
theorem dX4_firstWithUnknownLabel_59 : decode cX4_firstWithUnknownLabel 59 = .ok (.iinc 1 1, 3) := by decide +kernel
theorem dX4_firstWithUnknownLabel_62 : decode cX4_firstWithUnknownLabel 62 = .ok (.goto (-60), 3) := by decide +kernel
theorem dX4_firstWithUnknownLabel_65 : decode cX4_firstWithUnknownLabel 65 = .ok (.iconst (-1), 1) := by decide +kernel
theorem dX4_firstWithUnknownLabel_66 : decode cX4_firstWithUnknownLabel 66 = .ok (.ireturn, 1) := by decide +kernel
theorem dX4_placeLines_0 : decode cX4_placeLines 0 = .ok (.iload_n 1, 1) := by decide +kernel
theorem dX4_placeLines_1 : decode cX4_placeLines 1 = .ok (.istore_n 2, 1) := by decide +kernel
theorem dX4_placeLines_2 : decode cX4_placeLines 2 = .ok (.iconst 0, 1) := by decide +kernel
theorem dX4_placeLines_3 : decode cX4_placeLines 3 = .ok (.istore_n 3, 1) := by decide +kernel
theorem dX4_placeLines_4 : decode cX4_placeLines 4 = .ok (.iload_n 3, 1) := by decide +kernel
theorem dX4_placeLines_5 : decode cX4_placeLines 5 = .ok (.aload_n 0, 1) := by decide +kernel
theorem dX4_placeLines_6 : decode cX4_placeLines 6 = .ok (.getfield 146, 3) := by decide +kernel
theorem dX4_placeLines_9 : decode cX4_placeLines 9 = .ok (.if_icmp .ge 46, 3) := by decide +kernel
theorem dX4_placeLines_12 : decode cX4_placeLines 12 = .ok (.aload_n 0, 1) := by decide +kernel
theorem dX4_placeLines_13 : decode cX4_placeLines 13 = .ok (.getfield 32, 3) := by decide +kernel
theorem dX4_placeLines_16 : decode cX4_placeLines 16 = .ok (.iload_n 3, 1) := by decide +kernel
theorem dX4_placeLines_17 : decode cX4_placeLines 17 = .ok (.aaload, 1) := by decide +kernel
theorem dX4_placeLines_18 : decode cX4_placeLines 18 = .ok (.iload_n 2, 1) := by decide +kernel
theorem dX4_placeLines_19 : decode cX4_placeLines 19 = .ok (.putfield 261, 3) := by decide +kernel
theorem dX4_placeLines_22 : decode cX4_placeLines 22 = .ok (.aload_n 0, 1) := by decide +kernel
theorem dX4_placeLines_23 : decode cX4_placeLines 23 = .ok (.getfield 32, 3) := by decide +kernel
theorem dX4_placeLines_26 : decode cX4_placeLines 26 = .ok (.iload_n 3, 1) := by decide +kernel
theorem dX4_placeLines_27 : decode cX4_placeLines 27 = .ok (.aaload, 1) := by decide +kernel
theorem dX4_placeLines_28 : decode cX4_placeLines 28 = .ok (.getfield 257, 3) := by decide +kernel
theorem dX4_placeLines_31 : decode cX4_placeLines 31 = .ok (.ifnull 18, 3) := by decide +kernel
theorem dX4_placeLines_34 : decode cX4_placeLines 34 = .ok (.iload_n 2, 1) := by decide +kernel
theorem dX4_placeLines_35 : decode cX4_placeLines 35 = .ok (.aload_n 0, 1) := by decide +kernel
theorem dX4_placeLines_36 : decode cX4_placeLines 36 = .ok (.getfield 32, 3) := by decide +kernel
theorem dX4_placeLines_39 : decode cX4_placeLines 39 = .ok (.iload_n 3, 1) := by decide +kernel
theorem dX4_placeLines_40 : decode cX4_placeLines 40 = .ok (.aaload, 1) := by decide +kernel
theorem dX4_placeLines_41 : decode cX4_placeLines 41 = .ok (.getfield 257, 3) := by decide +kernel
theorem dX4_placeLines_44 : decode cX4_placeLines 44 = .ok (.getfield 221, 3) := by decide +kernel
theorem dX4_placeLines_47 : decode cX4_placeLines 47 = .ok (.iadd, 1) := by decide +kernel
theorem dX4_placeLines_48 : decode cX4_placeLines 48 = .ok (.istore_n 2, 1) := by decide +kernel
theorem dX4_placeLines_49 : decode cX4_placeLines 49 = .ok (.iinc 3 1, 3) := by decide +kernel
theorem dX4_placeLines_52 : decode cX4_placeLines 52 = .ok (.goto (-48), 3) := by decide +kernel
theorem dX4_placeLines_55 : decode cX4_placeLines 55 = .ok (.iload_n 2, 1) := by decide +kernel
theorem dX4_placeLines_56 : decode cX4_placeLines 56 = .ok (.ireturn, 1) := by decide +kernel
theorem dX4_firstUnfit_0 : decode cX4_firstUnfit 0 = .ok (.iconst 0, 1) := by decide +kernel
theorem dX4_firstUnfit_1 : decode cX4_firstUnfit 1 = .ok (.istore_n 1, 1) := by decide +kernel
theorem dX4_firstUnfit_2 : decode cX4_firstUnfit 2 = .ok (.iload_n 1, 1) := by decide +kernel
theorem dX4_firstUnfit_3 : decode cX4_firstUnfit 3 = .ok (.aload_n 0, 1) := by decide +kernel
theorem dX4_firstUnfit_4 : decode cX4_firstUnfit 4 = .ok (.getfield 146, 3) := by decide +kernel
theorem dX4_firstUnfit_7 : decode cX4_firstUnfit 7 = .ok (.if_icmp .ge 45, 3) := by decide +kernel
theorem dX4_firstUnfit_10 : decode cX4_firstUnfit 10 = .ok (.aload_n 0, 1) := by decide +kernel
theorem dX4_firstUnfit_11 : decode cX4_firstUnfit 11 = .ok (.getfield 32, 3) := by decide +kernel
theorem dX4_firstUnfit_14 : decode cX4_firstUnfit 14 = .ok (.iload_n 1, 1) := by decide +kernel
theorem dX4_firstUnfit_15 : decode cX4_firstUnfit 15 = .ok (.aaload, 1) := by decide +kernel
theorem dX4_firstUnfit_16 : decode cX4_firstUnfit 16 = .ok (.getfield 257, 3) := by decide +kernel
theorem dX4_firstUnfit_19 : decode cX4_firstUnfit 19 = .ok (.ifnull 27, 3) := by decide +kernel
theorem dX4_firstUnfit_22 : decode cX4_firstUnfit 22 = .ok (.aload_n 0, 1) := by decide +kernel
theorem dX4_firstUnfit_23 : decode cX4_firstUnfit 23 = .ok (.aload_n 0, 1) := by decide +kernel
theorem dX4_firstUnfit_24 : decode cX4_firstUnfit 24 = .ok (.getfield 32, 3) := by decide +kernel
theorem dX4_firstUnfit_27 : decode cX4_firstUnfit 27 = .ok (.iload_n 1, 1) := by decide +kernel
theorem dX4_firstUnfit_28 : decode cX4_firstUnfit 28 = .ok (.aaload, 1) := by decide +kernel
theorem dX4_firstUnfit_29 : decode cX4_firstUnfit 29 = .ok (.aload_n 0, 1) := by decide +kernel
theorem dX4_firstUnfit_30 : decode cX4_firstUnfit 30 = .ok (.getfield 32, 3) := by decide +kernel
theorem dX4_firstUnfit_33 : decode cX4_firstUnfit 33 = .ok (.iload_n 1, 1) := by decide +kernel
theorem dX4_firstUnfit_34 : decode cX4_firstUnfit 34 = .ok (.aaload, 1) := by decide +kernel
theorem dX4_firstUnfit_35 : decode cX4_firstUnfit 35 = .ok (.getfield 257, 3) := by decide +kernel
theorem dX4_firstUnfit_38 : decode cX4_firstUnfit 38 = .ok (.invokevirtual 264, 3) := by decide +kernel
theorem dX4_firstUnfit_41 : decode cX4_firstUnfit 41 = .ok (.ifCond .ne 5, 3) := by decide +kernel
theorem dX4_firstUnfit_44 : decode cX4_firstUnfit 44 = .ok (.iload_n 1, 1) := by decide +kernel
theorem dX4_firstUnfit_45 : decode cX4_firstUnfit 45 = .ok (.ireturn, 1) := by decide +kernel
theorem dX4_firstUnfit_46 : decode cX4_firstUnfit 46 = .ok (.iinc 1 1, 3) := by decide +kernel
theorem dX4_firstUnfit_49 : decode cX4_firstUnfit 49 = .ok (.goto (-47), 3) := by decide +kernel
theorem dX4_firstUnfit_52 : decode cX4_firstUnfit 52 = .ok (.iconst (-1), 1) := by decide +kernel
theorem dX4_firstUnfit_53 : decode cX4_firstUnfit 53 = .ok (.ireturn, 1) := by decide +kernel
theorem dX4_fits_0 : decode cX4_fits 0 = .ok (.iconst 0, 1) := by decide +kernel
theorem dX4_fits_1 : decode cX4_fits 1 = .ok (.istore_n 3, 1) := by decide +kernel
theorem dX4_fits_2 : decode cX4_fits 2 = .ok (.iload_n 3, 1) := by decide +kernel
theorem dX4_fits_3 : decode cX4_fits 3 = .ok (.aload_n 1, 1) := by decide +kernel
theorem dX4_fits_4 : decode cX4_fits 4 = .ok (.getfield 241, 3) := by decide +kernel
theorem dX4_fits_7 : decode cX4_fits 7 = .ok (.if_icmp .ge 38, 3) := by decide +kernel
theorem dX4_fits_10 : decode cX4_fits 10 = .ok (.aload_n 2, 1) := by decide +kernel
theorem dX4_fits_11 : decode cX4_fits 11 = .ok (.getfield 96, 3) := by decide +kernel
theorem dX4_fits_14 : decode cX4_fits 14 = .ok (.iload_n 3, 1) := by decide +kernel
theorem dX4_fits_15 : decode cX4_fits 15 = .ok (.aaload, 1) := by decide +kernel
theorem dX4_fits_16 : decode cX4_fits 16 = .ok (.aload_n 0, 1) := by decide +kernel
theorem dX4_fits_17 : decode cX4_fits 17 = .ok (.aload_n 1, 1) := by decide +kernel
theorem dX4_fits_18 : decode cX4_fits 18 = .ok (.iload_n 3, 1) := by decide +kernel
theorem dX4_fits_19 : decode cX4_fits 19 = .ok (.invokevirtual 268, 3) := by decide +kernel
theorem dX4_fits_22 : decode cX4_fits 22 = .ok (.aload_n 1, 1) := by decide +kernel
theorem dX4_fits_23 : decode cX4_fits 23 = .ok (.getfield 261, 3) := by decide +kernel
theorem dX4_fits_26 : decode cX4_fits 26 = .ok (.aload_n 2, 1) := by decide +kernel
theorem dX4_fits_27 : decode cX4_fits 27 = .ok (.getfield 221, 3) := by decide +kernel
theorem dX4_fits_30 : decode cX4_fits 30 = .ok (.iadd, 1) := by decide +kernel
theorem dX4_fits_31 : decode cX4_fits 31 = .ok (.invokevirtual 272, 3) := by decide +kernel
theorem dX4_fits_34 : decode cX4_fits 34 = .ok (.ifCond .ne 5, 3) := by decide +kernel
theorem dX4_fits_37 : decode cX4_fits 37 = .ok (.iconst 0, 1) := by decide +kernel
theorem dX4_fits_38 : decode cX4_fits 38 = .ok (.ireturn, 1) := by decide +kernel
theorem dX4_fits_39 : decode cX4_fits 39 = .ok (.iinc 3 1, 3) := by decide +kernel
theorem dX4_fits_42 : decode cX4_fits 42 = .ok (.goto (-40), 3) := by decide +kernel
theorem dX4_fits_45 : decode cX4_fits 45 = .ok (.iconst 1, 1) := by decide +kernel
theorem dX4_fits_46 : decode cX4_fits 46 = .ok (.ireturn, 1) := by decide +kernel
theorem dX4_wanted_0 : decode cX4_wanted 0 = .ok (.aload_n 1, 1) := by decide +kernel
theorem dX4_wanted_1 : decode cX4_wanted 1 = .ok (.getfield 248, 3) := by decide +kernel
theorem dX4_wanted_4 : decode cX4_wanted 4 = .ok (.iload_n 2, 1) := by decide +kernel
theorem dX4_wanted_5 : decode cX4_wanted 5 = .ok (.iaload, 1) := by decide +kernel
theorem dX4_wanted_6 : decode cX4_wanted 6 = .ok (.iconst (-1), 1) := by decide +kernel
theorem dX4_wanted_7 : decode cX4_wanted 7 = .ok (.if_icmp .ne 10, 3) := by decide +kernel
theorem dX4_wanted_10 : decode cX4_wanted 10 = .ok (.aload_n 1, 1) := by decide +kernel
theorem dX4_wanted_11 : decode cX4_wanted 11 = .ok (.getfield 254, 3) := by decide +kernel
theorem dX4_wanted_14 : decode cX4_wanted 14 = .ok (.iload_n 2, 1) := by decide +kernel
theorem dX4_wanted_15 : decode cX4_wanted 15 = .ok (.iaload, 1) := by decide +kernel
theorem dX4_wanted_16 : decode cX4_wanted 16 = .ok (.ireturn, 1) := by decide +kernel
theorem dX4_wanted_17 : decode cX4_wanted 17 = .ok (.aload_n 0, 1) := by decide +kernel
theorem dX4_wanted_18 : decode cX4_wanted 18 = .ok (.aload_n 1, 1) := by decide +kernel
theorem dX4_wanted_19 : decode cX4_wanted 19 = .ok (.getfield 248, 3) := by decide +kernel
theorem dX4_wanted_22 : decode cX4_wanted 22 = .ok (.iload_n 2, 1) := by decide +kernel
theorem dX4_wanted_23 : decode cX4_wanted 23 = .ok (.iaload, 1) := by decide +kernel
theorem dX4_wanted_24 : decode cX4_wanted 24 = .ok (.invokevirtual 158, 3) := by decide +kernel
theorem dX4_wanted_27 : decode cX4_wanted 27 = .ok (.istore_n 3, 1) := by decide +kernel
theorem dX4_wanted_28 : decode cX4_wanted 28 = .ok (.iload_n 3, 1) := by decide +kernel
theorem dX4_wanted_29 : decode cX4_wanted 29 = .ok (.iconst (-1), 1) := by decide +kernel
theorem dX4_wanted_30 : decode cX4_wanted 30 = .ok (.if_icmp .ne 7, 3) := by decide +kernel
theorem dX4_wanted_33 : decode cX4_wanted 33 = .ok (.iconst 0, 1) := by decide +kernel
theorem dX4_wanted_34 : decode cX4_wanted 34 = .ok (.goto 12, 3) := by decide +kernel
theorem dX4_wanted_37 : decode cX4_wanted 37 = .ok (.aload_n 0, 1) := by decide +kernel
theorem dX4_wanted_38 : decode cX4_wanted 38 = .ok (.getfield 32, 3) := by decide +kernel
theorem dX4_wanted_41 : decode cX4_wanted 41 = .ok (.iload_n 3, 1) := by decide +kernel
theorem dX4_wanted_42 : decode cX4_wanted 42 = .ok (.aaload, 1) := by decide +kernel
theorem dX4_wanted_43 : decode cX4_wanted 43 = .ok (.getfield 261, 3) := by decide +kernel
theorem dX4_wanted_46 : decode cX4_wanted 46 = .ok (.ireturn, 1) := by decide +kernel
theorem dX4_putLines_0 : decode cX4_putLines 0 = .ok (.iconst 0, 1) := by decide +kernel
theorem dX4_putLines_1 : decode cX4_putLines 1 = .ok (.istore_n 1, 1) := by decide +kernel
theorem dX4_putLines_2 : decode cX4_putLines 2 = .ok (.iload_n 1, 1) := by decide +kernel
theorem dX4_putLines_3 : decode cX4_putLines 3 = .ok (.aload_n 0, 1) := by decide +kernel
theorem dX4_putLines_4 : decode cX4_putLines 4 = .ok (.getfield 146, 3) := by decide +kernel
theorem dX4_putLines_7 : decode cX4_putLines 7 = .ok (.if_icmp .ge 40, 3) := by decide +kernel
theorem dX4_putLines_10 : decode cX4_putLines 10 = .ok (.aload_n 0, 1) := by decide +kernel
theorem dX4_putLines_11 : decode cX4_putLines 11 = .ok (.getfield 32, 3) := by decide +kernel
theorem dX4_putLines_14 : decode cX4_putLines 14 = .ok (.iload_n 1, 1) := by decide +kernel
theorem dX4_putLines_15 : decode cX4_putLines 15 = .ok (.aaload, 1) := by decide +kernel
theorem dX4_putLines_16 : decode cX4_putLines 16 = .ok (.getfield 257, 3) := by decide +kernel
theorem dX4_putLines_19 : decode cX4_putLines 19 = .ok (.ifnull 22, 3) := by decide +kernel
theorem dX4_putLines_22 : decode cX4_putLines 22 = .ok (.aload_n 0, 1) := by decide +kernel
theorem dX4_putLines_23 : decode cX4_putLines 23 = .ok (.aload_n 0, 1) := by decide +kernel
theorem dX4_putLines_24 : decode cX4_putLines 24 = .ok (.getfield 32, 3) := by decide +kernel
theorem dX4_putLines_27 : decode cX4_putLines 27 = .ok (.iload_n 1, 1) := by decide +kernel
theorem dX4_putLines_28 : decode cX4_putLines 28 = .ok (.aaload, 1) := by decide +kernel
theorem dX4_putLines_29 : decode cX4_putLines 29 = .ok (.aload_n 0, 1) := by decide +kernel
theorem dX4_putLines_30 : decode cX4_putLines 30 = .ok (.getfield 32, 3) := by decide +kernel
theorem dX4_putLines_33 : decode cX4_putLines 33 = .ok (.iload_n 1, 1) := by decide +kernel
theorem dX4_putLines_34 : decode cX4_putLines 34 = .ok (.aaload, 1) := by decide +kernel
theorem dX4_putLines_35 : decode cX4_putLines 35 = .ok (.getfield 257, 3) := by decide +kernel
theorem dX4_putLines_38 : decode cX4_putLines 38 = .ok (.invokevirtual 276, 3) := by decide +kernel
theorem dX4_putLines_41 : decode cX4_putLines 41 = .ok (.iinc 1 1, 3) := by decide +kernel
theorem dX4_putLines_44 : decode cX4_putLines 44 = .ok (.goto (-42), 3) := by decide +kernel
theorem dX4_putLines_47 : decode cX4_putLines 47 = .ok (.return_, 1) := by decide +kernel
theorem dX4_putInstruction_0 : decode cX4_putInstruction 0 = .ok (.aload_n 2, 1) := by decide +kernel
theorem dX4_putInstruction_1 : decode cX4_putInstruction 1 = .ok (.getfield 280, 3) := by decide +kernel
theorem dX4_putInstruction_4 : decode cX4_putInstruction 4 = .ok (.istore_n 3, 1) := by decide +kernel
theorem dX4_putInstruction_5 : decode cX4_putInstruction 5 = .ok (.iconst 0, 1) := by decide +kernel
theorem dX4_putInstruction_6 : decode cX4_putInstruction 6 = .ok (.istore 4, 2) := by decide +kernel
theorem dX4_putInstruction_8 : decode cX4_putInstruction 8 = .ok (.iload 4, 2) := by decide +kernel
theorem dX4_putInstruction_10 : decode cX4_putInstruction 10 = .ok (.aload_n 1, 1) := by decide +kernel
theorem dX4_putInstruction_11 : decode cX4_putInstruction 11 = .ok (.getfield 241, 3) := by decide +kernel
theorem dX4_putInstruction_14 : decode cX4_putInstruction 14 = .ok (.if_icmp .ge 38, 3) := by decide +kernel
theorem dX4_putInstruction_17 : decode cX4_putInstruction 17 = .ok (.iload_n 3, 1) := by decide +kernel
theorem dX4_putInstruction_18 : decode cX4_putInstruction 18 = .ok (.aload_n 2, 1) := by decide +kernel
theorem dX4_putInstruction_19 : decode cX4_putInstruction 19 = .ok (.getfield 96, 3) := by decide +kernel
theorem dX4_putInstruction_22 : decode cX4_putInstruction 22 = .ok (.iload 4, 2) := by decide +kernel
theorem dX4_putInstruction_24 : decode cX4_putInstruction 24 = .ok (.aaload, 1) := by decide +kernel
theorem dX4_putInstruction_25 : decode cX4_putInstruction 25 = .ok (.aload_n 0, 1) := by decide +kernel
theorem dX4_putInstruction_26 : decode cX4_putInstruction 26 = .ok (.aload_n 1, 1) := by decide +kernel
theorem dX4_putInstruction_27 : decode cX4_putInstruction 27 = .ok (.iload 4, 2) := by decide +kernel
theorem dX4_putInstruction_29 : decode cX4_putInstruction 29 = .ok (.invokevirtual 268, 3) := by decide +kernel
theorem dX4_putInstruction_32 : decode cX4_putInstruction 32 = .ok (.aload_n 1, 1) := by decide +kernel
theorem dX4_putInstruction_33 : decode cX4_putInstruction 33 = .ok (.getfield 261, 3) := by decide +kernel
theorem dX4_putInstruction_36 : decode cX4_putInstruction 36 = .ok (.aload_n 2, 1) := by decide +kernel
theorem dX4_putInstruction_37 : decode cX4_putInstruction 37 = .ok (.getfield 221, 3) := by decide +kernel
theorem dX4_putInstruction_40 : decode cX4_putInstruction 40 = .ok (.iadd, 1) := by decide +kernel
theorem dX4_putInstruction_41 : decode cX4_putInstruction 41 = .ok (.invokevirtual 283, 3) := by decide +kernel
theorem dX4_putInstruction_44 : decode cX4_putInstruction 44 = .ok (.ior, 1) := by decide +kernel
theorem dX4_putInstruction_45 : decode cX4_putInstruction 45 = .ok (.istore_n 3, 1) := by decide +kernel
theorem dX4_putInstruction_46 : decode cX4_putInstruction 46 = .ok (.iinc 4 1, 3) := by decide +kernel
theorem dX4_putInstruction_49 : decode cX4_putInstruction 49 = .ok (.goto (-41), 3) := by decide +kernel
theorem dX4_putInstruction_52 : decode cX4_putInstruction 52 = .ok (.iconst 0, 1) := by decide +kernel
theorem dX4_putInstruction_53 : decode cX4_putInstruction 53 = .ok (.istore 4, 2) := by decide +kernel
theorem dX4_putInstruction_55 : decode cX4_putInstruction 55 = .ok (.iload 4, 2) := by decide +kernel
theorem dX4_putInstruction_57 : decode cX4_putInstruction 57 = .ok (.aload_n 2, 1) := by decide +kernel
theorem dX4_putInstruction_58 : decode cX4_putInstruction 58 = .ok (.getfield 221, 3) := by decide +kernel
theorem dX4_putInstruction_61 : decode cX4_putInstruction 61 = .ok (.if_icmp .ge 51, 3) := by decide +kernel
theorem dX4_putInstruction_64 : decode cX4_putInstruction 64 = .ok (.aload_n 1, 1) := by decide +kernel
theorem dX4_putInstruction_65 : decode cX4_putInstruction 65 = .ok (.getfield 261, 3) := by decide +kernel
theorem dX4_putInstruction_68 : decode cX4_putInstruction 68 = .ok (.iload 4, 2) := by decide +kernel
theorem dX4_putInstruction_70 : decode cX4_putInstruction 70 = .ok (.iadd, 1) := by decide +kernel
theorem dX4_putInstruction_71 : decode cX4_putInstruction 71 = .ok (.istore 5, 2) := by decide +kernel
theorem dX4_putInstruction_73 : decode cX4_putInstruction 73 = .ok (.iload 5, 2) := by decide +kernel
theorem dX4_putInstruction_75 : decode cX4_putInstruction 75 = .ok (.ifCond .lt 31, 3) := by decide +kernel
theorem dX4_putInstruction_78 : decode cX4_putInstruction 78 = .ok (.iload 5, 2) := by decide +kernel
theorem dX4_putInstruction_80 : decode cX4_putInstruction 80 = .ok (.bipush 64, 2) := by decide +kernel
theorem dX4_putInstruction_82 : decode cX4_putInstruction 82 = .ok (.if_icmp .ge 24, 3) := by decide +kernel
theorem dX4_putInstruction_85 : decode cX4_putInstruction 85 = .ok (.aload_n 0, 1) := by decide +kernel
theorem dX4_putInstruction_86 : decode cX4_putInstruction 86 = .ok (.getfield 19, 3) := by decide +kernel
theorem dX4_putInstruction_89 : decode cX4_putInstruction 89 = .ok (.iload 5, 2) := by decide +kernel
theorem dX4_putInstruction_91 : decode cX4_putInstruction 91 = .ok (.iload_n 3, 1) := by decide +kernel
theorem dX4_putInstruction_92 : decode cX4_putInstruction 92 = .ok (.bipush 16, 2) := by decide +kernel
theorem dX4_putInstruction_94 : decode cX4_putInstruction 94 = .ok (.bipush 8, 2) := by decide +kernel
theorem dX4_putInstruction_96 : decode cX4_putInstruction 96 = .ok (.iload 4, 2) := by decide +kernel
theorem dX4_putInstruction_98 : decode cX4_putInstruction 98 = .ok (.imul, 1) := by decide +kernel
theorem dX4_putInstruction_99 : decode cX4_putInstruction 99 = .ok (.isub, 1) := by decide +kernel
theorem dX4_putInstruction_100 : decode cX4_putInstruction 100 = .ok (.ishr, 1) := by decide +kernel
theorem dX4_putInstruction_101 : decode cX4_putInstruction 101 = .ok (.sipush 255, 3) := by decide +kernel
theorem dX4_putInstruction_104 : decode cX4_putInstruction 104 = .ok (.iand, 1) := by decide +kernel
theorem dX4_putInstruction_105 : decode cX4_putInstruction 105 = .ok (.iastore, 1) := by decide +kernel
theorem dX4_putInstruction_106 : decode cX4_putInstruction 106 = .ok (.iinc 4 1, 3) := by decide +kernel
theorem dX4_putInstruction_109 : decode cX4_putInstruction 109 = .ok (.goto (-54), 3) := by decide +kernel
theorem dX4_putInstruction_112 : decode cX4_putInstruction 112 = .ok (.return_, 1) := by decide +kernel
theorem dJ6_bitCount_0f7a4_0 : decode cJ6_bitCount_0f7a4 0 = .ok (.iload_n 0, 1) := by decide +kernel
theorem dJ6_bitCount_0f7a4_1 : decode cJ6_bitCount_0f7a4 1 = .ok (.iload_n 0, 1) := by decide +kernel
theorem dJ6_bitCount_0f7a4_2 : decode cJ6_bitCount_0f7a4 2 = .ok (.iconst 1, 1) := by decide +kernel
theorem dJ6_bitCount_0f7a4_3 : decode cJ6_bitCount_0f7a4 3 = .ok (.iushr, 1) := by decide +kernel
theorem dJ6_bitCount_0f7a4_4 : decode cJ6_bitCount_0f7a4 4 = .ok (.ldc_w 265, 3) := by decide +kernel
theorem dJ6_bitCount_0f7a4_7 : decode cJ6_bitCount_0f7a4 7 = .ok (.iand, 1) := by decide +kernel
theorem dJ6_bitCount_0f7a4_8 : decode cJ6_bitCount_0f7a4 8 = .ok (.isub, 1) := by decide +kernel
theorem dJ6_bitCount_0f7a4_9 : decode cJ6_bitCount_0f7a4 9 = .ok (.istore_n 0, 1) := by decide +kernel
theorem dJ6_bitCount_0f7a4_10 : decode cJ6_bitCount_0f7a4 10 = .ok (.iload_n 0, 1) := by decide +kernel
theorem dJ6_bitCount_0f7a4_11 : decode cJ6_bitCount_0f7a4 11 = .ok (.ldc_w 266, 3) := by decide +kernel
theorem dJ6_bitCount_0f7a4_14 : decode cJ6_bitCount_0f7a4 14 = .ok (.iand, 1) := by decide +kernel
theorem dJ6_bitCount_0f7a4_15 : decode cJ6_bitCount_0f7a4 15 = .ok (.iload_n 0, 1) := by decide +kernel
theorem dJ6_bitCount_0f7a4_16 : decode cJ6_bitCount_0f7a4 16 = .ok (.iconst 2, 1) := by decide +kernel
theorem dJ6_bitCount_0f7a4_17 : decode cJ6_bitCount_0f7a4 17 = .ok (.iushr, 1) := by decide +kernel
theorem dJ6_bitCount_0f7a4_18 : decode cJ6_bitCount_0f7a4 18 = .ok (.ldc_w 266, 3) := by decide +kernel
theorem dJ6_bitCount_0f7a4_21 : decode cJ6_bitCount_0f7a4 21 = .ok (.iand, 1) := by decide +kernel
theorem dJ6_bitCount_0f7a4_22 : decode cJ6_bitCount_0f7a4 22 = .ok (.iadd, 1) := by decide +kernel
theorem dJ6_bitCount_0f7a4_23 : decode cJ6_bitCount_0f7a4 23 = .ok (.istore_n 0, 1) := by decide +kernel
theorem dJ6_bitCount_0f7a4_24 : decode cJ6_bitCount_0f7a4 24 = .ok (.iload_n 0, 1) := by decide +kernel
theorem dJ6_bitCount_0f7a4_25 : decode cJ6_bitCount_0f7a4 25 = .ok (.iload_n 0, 1) := by decide +kernel
theorem dJ6_bitCount_0f7a4_26 : decode cJ6_bitCount_0f7a4 26 = .ok (.iconst 4, 1) := by decide +kernel
theorem dJ6_bitCount_0f7a4_27 : decode cJ6_bitCount_0f7a4 27 = .ok (.iushr, 1) := by decide +kernel
theorem dJ6_bitCount_0f7a4_28 : decode cJ6_bitCount_0f7a4 28 = .ok (.iadd, 1) := by decide +kernel
theorem dJ6_bitCount_0f7a4_29 : decode cJ6_bitCount_0f7a4 29 = .ok (.ldc_w 267, 3) := by decide +kernel
theorem dJ6_bitCount_0f7a4_32 : decode cJ6_bitCount_0f7a4 32 = .ok (.iand, 1) := by decide +kernel
theorem dJ6_bitCount_0f7a4_33 : decode cJ6_bitCount_0f7a4 33 = .ok (.istore_n 0, 1) := by decide +kernel
theorem dJ6_bitCount_0f7a4_34 : decode cJ6_bitCount_0f7a4 34 = .ok (.iload_n 0, 1) := by decide +kernel
theorem dJ6_bitCount_0f7a4_35 : decode cJ6_bitCount_0f7a4 35 = .ok (.iload_n 0, 1) := by decide +kernel
theorem dJ6_bitCount_0f7a4_36 : decode cJ6_bitCount_0f7a4 36 = .ok (.bipush 8, 2) := by decide +kernel
theorem dJ6_bitCount_0f7a4_38 : decode cJ6_bitCount_0f7a4 38 = .ok (.iushr, 1) := by decide +kernel
theorem dJ6_bitCount_0f7a4_39 : decode cJ6_bitCount_0f7a4 39 = .ok (.iadd, 1) := by decide +kernel
theorem dJ6_bitCount_0f7a4_40 : decode cJ6_bitCount_0f7a4 40 = .ok (.istore_n 0, 1) := by decide +kernel
theorem dJ6_bitCount_0f7a4_41 : decode cJ6_bitCount_0f7a4 41 = .ok (.iload_n 0, 1) := by decide +kernel
theorem dJ6_bitCount_0f7a4_42 : decode cJ6_bitCount_0f7a4 42 = .ok (.iload_n 0, 1) := by decide +kernel
theorem dJ6_bitCount_0f7a4_43 : decode cJ6_bitCount_0f7a4 43 = .ok (.bipush 16, 2) := by decide +kernel
theorem dJ6_bitCount_0f7a4_45 : decode cJ6_bitCount_0f7a4 45 = .ok (.iushr, 1) := by decide +kernel
theorem dJ6_bitCount_0f7a4_46 : decode cJ6_bitCount_0f7a4 46 = .ok (.iadd, 1) := by decide +kernel
theorem dJ6_bitCount_0f7a4_47 : decode cJ6_bitCount_0f7a4 47 = .ok (.istore_n 0, 1) := by decide +kernel
theorem dJ6_bitCount_0f7a4_48 : decode cJ6_bitCount_0f7a4 48 = .ok (.iload_n 0, 1) := by decide +kernel
theorem dJ6_bitCount_0f7a4_49 : decode cJ6_bitCount_0f7a4 49 = .ok (.bipush 63, 2) := by decide +kernel
theorem dJ6_bitCount_0f7a4_51 : decode cJ6_bitCount_0f7a4 51 = .ok (.iand, 1) := by decide +kernel
theorem dJ6_bitCount_0f7a4_52 : decode cJ6_bitCount_0f7a4 52 = .ok (.ireturn, 1) := by decide +kernel
end
section
theorem dX5_init_0 : decode cX5_init 0 = .ok (.aload_n 0, 1) := by decide +kernel
theorem dX5_init_1 : decode cX5_init 1 = .ok (.invokespecial 1, 3) := by decide +kernel
theorem dX5_init_4 : decode cX5_init 4 = .ok (.aload_n 0, 1) := by decide +kernel
theorem dX5_init_5 : decode cX5_init 5 = .ok (.bipush 40, 2) := by decide +kernel
theorem dX5_init_7 : decode cX5_init 7 = .ok (.newarray .char, 2) := by decide +kernel
theorem dX5_init_9 : decode cX5_init 9 = .ok (.putfield 7, 3) := by decide +kernel
theorem dX5_init_12 : decode cX5_init 12 = .ok (.aload_n 0, 1) := by decide +kernel
theorem dX5_init_13 : decode cX5_init 13 = .ok (.bipush 12, 2) := by decide +kernel
theorem dX5_init_15 : decode cX5_init 15 = .ok (.newarray .int, 2) := by decide +kernel
theorem dX5_init_17 : decode cX5_init 17 = .ok (.putfield 13, 3) := by decide +kernel
theorem dX5_init_20 : decode cX5_init 20 = .ok (.aload_n 0, 1) := by decide +kernel
theorem dX5_init_21 : decode cX5_init 21 = .ok (.bipush 12, 2) := by decide +kernel
theorem dX5_init_23 : decode cX5_init 23 = .ok (.newarray .int, 2) := by decide +kernel
theorem dX5_init_25 : decode cX5_init 25 = .ok (.putfield 17, 3) := by decide +kernel
theorem dX5_init_28 : decode cX5_init 28 = .ok (.aload_n 0, 1) := by decide +kernel
theorem dX5_init_29 : decode cX5_init 29 = .ok (.sipush 288, 3) := by decide +kernel
theorem dX5_init_32 : decode cX5_init 32 = .ok (.newarray .int, 2) := by decide +kernel
theorem dX5_init_34 : decode cX5_init 34 = .ok (.putfield 20, 3) := by decide +kernel
theorem dX5_init_37 : decode cX5_init 37 = .ok (.aload_n 0, 1) := by decide +kernel
theorem dX5_init_38 : decode cX5_init 38 = .ok (.bipush 12, 2) := by decide +kernel
theorem dX5_init_40 : decode cX5_init 40 = .ok (.newarray .int, 2) := by decide +kernel
theorem dX5_init_42 : decode cX5_init 42 = .ok (.putfield 23, 3) := by decide +kernel
theorem dX5_init_45 : decode cX5_init 45 = .ok (.aload_n 0, 1) := by decide +kernel
theorem dX5_init_46 : decode cX5_init 46 = .ok (.bipush 36, 2) := by decide +kernel
theorem dX5_init_48 : decode cX5_init 48 = .ok (.newarray .int, 2) := by decide +kernel
theorem dX5_init_50 : decode cX5_init 50 = .ok (.putfield 26, 3) := by decide +kernel
theorem dX5_init_53 : decode cX5_init 53 = .ok (.aload_n 0, 1) := by decide +kernel
theorem dX5_init_54 : decode cX5_init 54 = .ok (.bipush 36, 2) := by decide +kernel
theorem dX5_init_56 : decode cX5_init 56 = .ok (.newarray .int, 2) := by decide +kernel
theorem dX5_init_58 : decode cX5_init 58 = .ok (.putfield 29, 3) := by decide +kernel
theorem dX5_init_61 : decode cX5_init 61 = .ok (.aload_n 0, 1) := by decide +kernel
theorem dX5_init_62 : decode cX5_init 62 = .ok (.bipush 36, 2) := by decide +kernel
theorem dX5_init_64 : decode cX5_init 64 = .ok (.newarray .int, 2) := by decide +kernel
theorem dX5_init_66 : decode cX5_init 66 = .ok (.putfield 32, 3) := by decide +kernel
theorem dX5_init_69 : decode cX5_init 69 = .ok (.aload_n 0, 1) := by decide +kernel
theorem dX5_init_70 : decode cX5_init 70 = .ok (.bipush 36, 2) := by decide +kernel
theorem dX5_init_72 : decode cX5_init 72 = .ok (.newarray .int, 2) := by decide +kernel
theorem dX5_init_74 : decode cX5_init 74 = .ok (.putfield 35, 3) := by decide +kernel
theorem dX5_init_77 : decode cX5_init 77 = .ok (.aload_n 0, 1) := by decide +kernel
theorem dX5_init_78 : decode cX5_init 78 = .ok (.bipush 24, 2) := by decide +kernel
theorem dX5_init_80 : decode cX5_init 80 = .ok (.newarray .int, 2) := by decide +kernel
theorem dX5_init_82 : decode cX5_init 82 = .ok (.putfield 38, 3) := by decide +kernel
theorem dX5_init_85 : decode cX5_init 85 = .ok (.aload_n 0, 1) := by decide +kernel
theorem dX5_init_86 : decode cX5_init 86 = .ok (.iconst 3, 1) := by decide +kernel
theorem dX5_init_87 : decode cX5_init 87 = .ok (.newarray .int, 2) := by decide +kernel
theorem dX5_init_89 : decode cX5_init 89 = .ok (.putfield 41, 3) := by decide +kernel
theorem dX5_init_92 : decode cX5_init 92 = .ok (.aload_n 0, 1) := by decide +kernel
theorem dX5_init_93 : decode cX5_init 93 = .ok (.bipush 64, 2) := by decide +kernel
theorem dX5_init_95 : decode cX5_init 95 = .ok (.newarray .int, 2) := by decide +kernel
theorem dX5_init_97 : decode cX5_init 97 = .ok (.putfield 44, 3) := by decide +kernel
theorem dX5_init_100 : decode cX5_init 100 = .ok (.aload_n 0, 1) := by decide +kernel
theorem dX5_init_101 : decode cX5_init 101 = .ok (.bipush 20, 2) := by decide +kernel
theorem dX5_init_103 : decode cX5_init 103 = .ok (.newarray .int, 2) := by decide +kernel
theorem dX5_init_105 : decode cX5_init 105 = .ok (.putfield 47, 3) := by decide +kernel
theorem dX5_init_108 : decode cX5_init 108 = .ok (.aload_n 0, 1) := by decide +kernel
theorem dX5_init_109 : decode cX5_init 109 = .ok (.bipush 20, 2) := by decide +kernel
theorem dX5_init_111 : decode cX5_init 111 = .ok (.newarray .int, 2) := by decide +kernel
theorem dX5_init_113 : decode cX5_init 113 = .ok (.putfield 50, 3) := by decide +kernel
theorem dX5_init_116 : decode cX5_init 116 = .ok (.aload_n 0, 1) := by decide +kernel
theorem dX5_init_117 : decode cX5_init 117 = .ok (.bipush 20, 2) := by decide +kernel
theorem dX5_init_119 : decode cX5_init 119 = .ok (.newarray .int, 2) := by decide +kernel
theorem dX5_init_121 : decode cX5_init 121 = .ok (.putfield 53, 3) := by decide +kernel
theorem dX5_init_124 : decode cX5_init 124 = .ok (.aload_n 0, 1) := by decide +kernel
theorem dX5_init_125 : decode cX5_init 125 = .ok (.bipush 60, 2) := by decide +kernel
theorem dX5_init_127 : decode cX5_init 127 = .ok (.newarray .int, 2) := by decide +kernel
theorem dX5_init_129 : decode cX5_init 129 = .ok (.putfield 56, 3) := by decide +kernel
theorem dX5_init_132 : decode cX5_init 132 = .ok (.aload_n 0, 1) := by decide +kernel
theorem dX5_init_133 : decode cX5_init 133 = .ok (.bipush 60, 2) := by decide +kernel
theorem dX5_init_135 : decode cX5_init 135 = .ok (.newarray .boolean, 2) := by decide +kernel
theorem dX5_init_137 : decode cX5_init 137 = .ok (.putfield 59, 3) := by decide +kernel
theorem dX5_init_140 : decode cX5_init 140 = .ok (.aload_n 0, 1) := by decide +kernel
theorem dX5_init_141 : decode cX5_init 141 = .ok (.iconst 3, 1) := by decide +kernel
theorem dX5_init_142 : decode cX5_init 142 = .ok (.newarray .int, 2) := by decide +kernel
theorem dX5_init_144 : decode cX5_init 144 = .ok (.putfield 63, 3) := by decide +kernel
theorem dX5_init_147 : decode cX5_init 147 = .ok (.aload_n 0, 1) := by decide +kernel
theorem dX5_init_148 : decode cX5_init 148 = .ok (.iconst 3, 1) := by decide +kernel
theorem dX5_init_149 : decode cX5_init 149 = .ok (.newarray .boolean, 2) := by decide +kernel
theorem dX5_init_151 : decode cX5_init 151 = .ok (.putfield 66, 3) := by decide +kernel
theorem dX5_init_154 : decode cX5_init 154 = .ok (.aload_n 0, 1) := by decide +kernel
theorem dX5_init_155 : decode cX5_init 155 = .ok (.bipush 21, 2) := by decide +kernel
theorem dX5_init_157 : decode cX5_init 157 = .ok (.newarray .int, 2) := by decide +kernel
theorem dX5_init_159 : decode cX5_init 159 = .ok (.putfield 69, 3) := by decide +kernel
theorem dX5_init_162 : decode cX5_init 162 = .ok (.aload_n 0, 1) := by decide +kernel
theorem dX5_init_163 : decode cX5_init 163 = .ok (.bipush 64, 2) := by decide +kernel
theorem dX5_init_165 : decode cX5_init 165 = .ok (.newarray .int, 2) := by decide +kernel
theorem dX5_init_167 : decode cX5_init 167 = .ok (.putfield 72, 3) := by decide +kernel
theorem dX5_init_170 : decode cX5_init 170 = .ok (.aload_n 0, 1) := by decide +kernel
theorem dX5_init_171 : decode cX5_init 171 = .ok (.iconst (-1), 1) := by decide +kernel
theorem dX5_init_172 : decode cX5_init 172 = .ok (.putfield 75, 3) := by decide +kernel
theorem dX5_init_175 : decode cX5_init 175 = .ok (.aload_n 0, 1) := by decide +kernel
theorem dX5_init_176 : decode cX5_init 176 = .ok (.bipush 40, 2) := by decide +kernel
theorem dX5_init_178 : decode cX5_init 178 = .ok (.newarray .char, 2) := by decide +kernel
theorem dX5_init_180 : decode cX5_init 180 = .ok (.putfield 79, 3) := by decide +kernel
theorem dX5_init_183 : decode cX5_init 183 = .ok (.return_, 1) := by decide +kernel
theorem dX5_thrown_0 : decode cX5_thrown 0 = .ok (.aload_n 0, 1) := by decide +kernel
theorem dX5_thrown_1 : decode cX5_thrown 1 = .ok (.getfield 82, 3) := by decide +kernel
theorem dX5_thrown_4 : decode cX5_thrown 4 = .ok (.ireturn, 1) := by decide +kernel
theorem dX5_type_0 : decode cX5_type 0 = .ok (.aload_n 0, 1) := by decide +kernel
theorem dX5_type_1 : decode cX5_type 1 = .ok (.iconst 0, 1) := by decide +kernel
theorem dX5_type_2 : decode cX5_type 2 = .ok (.putfield 82, 3) := by decide +kernel
theorem dX5_type_5 : decode cX5_type 5 = .ok (.aload_n 0, 1) := by decide +kernel
theorem dX5_type_6 : decode cX5_type 6 = .ok (.getfield 85, 3) := by decide +kernel
theorem dX5_type_9 : decode cX5_type 9 = .ok (.bipush 40, 2) := by decide +kernel
theorem dX5_type_11 : decode cX5_type 11 = .ok (.if_icmp .ne 5, 3) := by decide +kernel
theorem dX5_type_14 : decode cX5_type 14 = .ok (.iconst (-1), 1) := by decide +kernel
theorem dX5_type_15 : decode cX5_type 15 = .ok (.ireturn, 1) := by decide +kernel
theorem dX5_type_16 : decode cX5_type 16 = .ok (.aload_n 0, 1) := by decide +kernel
theorem dX5_type_17 : decode cX5_type 17 = .ok (.getfield 7, 3) := by decide +kernel
theorem dX5_type_20 : decode cX5_type 20 = .ok (.aload_n 0, 1) := by decide +kernel
theorem dX5_type_21 : decode cX5_type 21 = .ok (.getfield 85, 3) := by decide +kernel
theorem dX5_type_24 : decode cX5_type 24 = .ok (.iload_n 1, 1) := by decide +kernel
theorem dX5_type_25 : decode cX5_type 25 = .ok (.castore, 1) := by decide +kernel
theorem dX5_type_26 : decode cX5_type 26 = .ok (.aload_n 0, 1) := by decide +kernel
theorem dX5_type_27 : decode cX5_type 27 = .ok (.dup, 1) := by decide +kernel
theorem dX5_type_28 : decode cX5_type 28 = .ok (.getfield 85, 3) := by decide +kernel
theorem dX5_type_31 : decode cX5_type 31 = .ok (.iconst 1, 1) := by decide +kernel
theorem dX5_type_32 : decode cX5_type 32 = .ok (.iadd, 1) := by decide +kernel
theorem dX5_type_33 : decode cX5_type 33 = .ok (.putfield 85, 3) := by decide +kernel
theorem dX5_type_36 : decode cX5_type 36 = .ok (.aload_n 0, 1) := by decide +kernel
theorem dX5_type_37 : decode cX5_type 37 = .ok (.getfield 85, 3) := by decide +kernel
theorem dX5_type_40 : decode cX5_type 40 = .ok (.ireturn, 1) := by decide +kernel
theorem dX5_here_0 : decode cX5_here 0 = .ok (.aload_n 0, 1) := by decide +kernel
theorem dX5_here_1 : decode cX5_here 1 = .ok (.getfield 88, 3) := by decide +kernel
theorem dX5_here_4 : decode cX5_here 4 = .ok (.aload_n 0, 1) := by decide +kernel
theorem dX5_here_5 : decode cX5_here 5 = .ok (.getfield 85, 3) := by decide +kernel
theorem dX5_here_8 : decode cX5_here 8 = .ok (.if_icmp .ge 15, 3) := by decide +kernel
theorem dX5_here_11 : decode cX5_here 11 = .ok (.aload_n 0, 1) := by decide +kernel
theorem dX5_here_12 : decode cX5_here 12 = .ok (.getfield 7, 3) := by decide +kernel
theorem dX5_here_15 : decode cX5_here 15 = .ok (.aload_n 0, 1) := by decide +kernel
theorem dX5_here_16 : decode cX5_here 16 = .ok (.getfield 88, 3) := by decide +kernel
theorem dX5_here_19 : decode cX5_here 19 = .ok (.caload, 1) := by decide +kernel
theorem dX5_here_20 : decode cX5_here 20 = .ok (.goto 4, 3) := by decide +kernel
theorem dX5_here_23 : decode cX5_here 23 = .ok (.iconst (-1), 1) := by decide +kernel
theorem dX5_here_24 : decode cX5_here 24 = .ok (.ireturn, 1) := by decide +kernel
theorem dX5_must_0 : decode cX5_must 0 = .ok (.aload_n 0, 1) := by decide +kernel
theorem dX5_must_1 : decode cX5_must 1 = .ok (.aload_n 0, 1) := by decide +kernel
theorem dX5_must_2 : decode cX5_must 2 = .ok (.getfield 91, 3) := by decide +kernel
theorem dX5_must_5 : decode cX5_must 5 = .ok (.ifCond .ne 11, 3) := by decide +kernel
theorem dX5_must_8 : decode cX5_must 8 = .ok (.aload_n 0, 1) := by decide +kernel
theorem dX5_must_9 : decode cX5_must 9 = .ok (.invokevirtual 95, 3) := by decide +kernel
theorem dX5_must_12 : decode cX5_must 12 = .ok (.iload_n 1, 1) := by decide +kernel
theorem dX5_must_13 : decode cX5_must 13 = .ok (.if_icmp .eq 7, 3) := by decide +kernel
theorem dX5_must_16 : decode cX5_must 16 = .ok (.iconst 1, 1) := by decide +kernel
theorem dX5_must_17 : decode cX5_must 17 = .ok (.goto 4, 3) := by decide +kernel
theorem dX5_must_20 : decode cX5_must 20 = .ok (.iconst 0, 1) := by decide +kernel
theorem dX5_must_21 : decode cX5_must 21 = .ok (.putfield 91, 3) := by decide +kernel
theorem dX5_must_24 : decode cX5_must 24 = .ok (.aload_n 0, 1) := by decide +kernel
theorem dX5_must_25 : decode cX5_must 25 = .ok (.dup, 1) := by decide +kernel
theorem dX5_must_26 : decode cX5_must 26 = .ok (.getfield 88, 3) := by decide +kernel
theorem dX5_must_29 : decode cX5_must 29 = .ok (.iconst 1, 1) := by decide +kernel
theorem dX5_must_30 : decode cX5_must 30 = .ok (.iadd, 1) := by decide +kernel
theorem dX5_must_31 : decode cX5_must 31 = .ok (.putfield 88, 3) := by decide +kernel
theorem dX5_must_34 : decode cX5_must 34 = .ok (.return_, 1) := by decide +kernel
theorem dX5_isLetter_0 : decode cX5_isLetter 0 = .ok (.iload_n 0, 1) := by decide +kernel
theorem dX5_isLetter_1 : decode cX5_isLetter 1 = .ok (.bipush 97, 2) := by decide +kernel
theorem dX5_isLetter_3 : decode cX5_isLetter 3 = .ok (.if_icmp .lt 13, 3) := by decide +kernel
theorem dX5_isLetter_6 : decode cX5_isLetter 6 = .ok (.iload_n 0, 1) := by decide +kernel
theorem dX5_isLetter_7 : decode cX5_isLetter 7 = .ok (.bipush 122, 2) := by decide +kernel
theorem dX5_isLetter_9 : decode cX5_isLetter 9 = .ok (.if_icmp .gt 7, 3) := by decide +kernel
theorem dX5_isLetter_12 : decode cX5_isLetter 12 = .ok (.iconst 1, 1) := by decide +kernel
theorem dX5_isLetter_13 : decode cX5_isLetter 13 = .ok (.goto 4, 3) := by decide +kernel
theorem dX5_isLetter_16 : decode cX5_isLetter 16 = .ok (.iconst 0, 1) := by decide +kernel
theorem dX5_isLetter_17 : decode cX5_isLetter 17 = .ok (.ireturn, 1) := by decide +kernel
theorem dX5_isDigit_0 : decode cX5_isDigit 0 = .ok (.iload_n 0, 1) := by decide +kernel
theorem dX5_isDigit_1 : decode cX5_isDigit 1 = .ok (.bipush 48, 2) := by decide +kernel
theorem dX5_isDigit_3 : decode cX5_isDigit 3 = .ok (.if_icmp .lt 13, 3) := by decide +kernel
theorem dX5_isDigit_6 : decode cX5_isDigit 6 = .ok (.iload_n 0, 1) := by decide +kernel
theorem dX5_isDigit_7 : decode cX5_isDigit 7 = .ok (.bipush 57, 2) := by decide +kernel
theorem dX5_isDigit_9 : decode cX5_isDigit 9 = .ok (.if_icmp .gt 7, 3) := by decide +kernel
theorem dX5_isDigit_12 : decode cX5_isDigit 12 = .ok (.iconst 1, 1) := by decide +kernel
theorem dX5_isDigit_13 : decode cX5_isDigit 13 = .ok (.goto 4, 3) := by decide +kernel
theorem dX5_isDigit_16 : decode cX5_isDigit 16 = .ok (.iconst 0, 1) := by decide +kernel
theorem dX5_isDigit_17 : decode cX5_isDigit 17 = .ok (.ireturn, 1) := by decide +kernel
theorem dX5_readName_0 : decode cX5_readName 0 = .ok (.iconst 0, 1) := by decide +kernel
theorem dX5_readName_1 : decode cX5_readName 1 = .ok (.istore_n 1, 1) := by decide +kernel
theorem dX5_readName_2 : decode cX5_readName 2 = .ok (.iconst 0, 1) := by decide +kernel
theorem dX5_readName_3 : decode cX5_readName 3 = .ok (.istore_n 2, 1) := by decide +kernel
theorem dX5_readName_4 : decode cX5_readName 4 = .ok (.aload_n 0, 1) := by decide +kernel
theorem dX5_readName_5 : decode cX5_readName 5 = .ok (.invokevirtual 95, 3) := by decide +kernel
theorem dX5_readName_8 : decode cX5_readName 8 = .ok (.invokestatic 99, 3) := by decide +kernel
theorem dX5_readName_11 : decode cX5_readName 11 = .ok (.ifCond .eq 43, 3) := by decide +kernel
theorem dX5_readName_14 : decode cX5_readName 14 = .ok (.iload_n 2, 1) := by decide +kernel
theorem dX5_readName_15 : decode cX5_readName 15 = .ok (.iconst 4, 1) := by decide +kernel
theorem dX5_readName_16 : decode cX5_readName 16 = .ok (.if_icmp .ge 20, 3) := by decide +kernel
theorem dX5_readName_19 : decode cX5_readName 19 = .ok (.bipush 27, 2) := by decide +kernel
theorem dX5_readName_21 : decode cX5_readName 21 = .ok (.iload_n 1, 1) := by decide +kernel
theorem dX5_readName_22 : decode cX5_readName 22 = .ok (.imul, 1) := by decide +kernel
theorem dX5_readName_23 : decode cX5_readName 23 = .ok (.aload_n 0, 1) := by decide +kernel
theorem dX5_readName_24 : decode cX5_readName 24 = .ok (.invokevirtual 95, 3) := by decide +kernel
theorem dX5_readName_27 : decode cX5_readName 27 = .ok (.iadd, 1) := by decide +kernel
theorem dX5_readName_28 : decode cX5_readName 28 = .ok (.bipush 97, 2) := by decide +kernel
theorem dX5_readName_30 : decode cX5_readName 30 = .ok (.isub, 1) := by decide +kernel
theorem dX5_readName_31 : decode cX5_readName 31 = .ok (.iconst 1, 1) := by decide +kernel
theorem dX5_readName_32 : decode cX5_readName 32 = .ok (.iadd, 1) := by decide +kernel
theorem dX5_readName_33 : decode cX5_readName 33 = .ok (.goto 4, 3) := by decide +kernel
theorem dX5_readName_36 : decode cX5_readName 36 = .ok (.iload_n 1, 1) := by decide +kernel
theorem dX5_readName_37 : decode cX5_readName 37 = .ok (.istore_n 1, 1) := by decide +kernel
theorem dX5_readName_38 : decode cX5_readName 38 = .ok (.iinc 2 1, 3) := by decide +kernel
theorem dX5_readName_41 : decode cX5_readName 41 = .ok (.aload_n 0, 1) := by decide +kernel
theorem dX5_readName_42 : decode cX5_readName 42 = .ok (.dup, 1) := by decide +kernel
theorem dX5_readName_43 : decode cX5_readName 43 = .ok (.getfield 88, 3) := by decide +kernel
theorem dX5_readName_46 : decode cX5_readName 46 = .ok (.iconst 1, 1) := by decide +kernel
theorem dX5_readName_47 : decode cX5_readName 47 = .ok (.iadd, 1) := by decide +kernel
theorem dX5_readName_48 : decode cX5_readName 48 = .ok (.putfield 88, 3) := by decide +kernel
theorem dX5_readName_51 : decode cX5_readName 51 = .ok (.goto (-47), 3) := by decide +kernel
theorem dX5_readName_54 : decode cX5_readName 54 = .ok (.aload_n 0, 1) := by decide +kernel
theorem dX5_readName_55 : decode cX5_readName 55 = .ok (.aload_n 0, 1) := by decide +kernel
theorem dX5_readName_56 : decode cX5_readName 56 = .ok (.getfield 91, 3) := by decide +kernel
theorem dX5_readName_59 : decode cX5_readName 59 = .ok (.ifCond .ne 13, 3) := by decide +kernel
theorem dX5_readName_62 : decode cX5_readName 62 = .ok (.iload_n 2, 1) := by decide +kernel
theorem dX5_readName_63 : decode cX5_readName 63 = .ok (.iconst 1, 1) := by decide +kernel
theorem dX5_readName_64 : decode cX5_readName 64 = .ok (.if_icmp .lt 8, 3) := by decide +kernel
theorem dX5_readName_67 : decode cX5_readName 67 = .ok (.iload_n 2, 1) := by decide +kernel
theorem dX5_readName_68 : decode cX5_readName 68 = .ok (.iconst 4, 1) := by decide +kernel
theorem dX5_readName_69 : decode cX5_readName 69 = .ok (.if_icmp .le 7, 3) := by decide +kernel
theorem dX5_readName_72 : decode cX5_readName 72 = .ok (.iconst 1, 1) := by decide +kernel
theorem dX5_readName_73 : decode cX5_readName 73 = .ok (.goto 4, 3) := by decide +kernel
theorem dX5_readName_76 : decode cX5_readName 76 = .ok (.iconst 0, 1) := by decide +kernel
theorem dX5_readName_77 : decode cX5_readName 77 = .ok (.putfield 91, 3) := by decide +kernel
theorem dX5_readName_80 : decode cX5_readName 80 = .ok (.iload_n 1, 1) := by decide +kernel
theorem dX5_readName_81 : decode cX5_readName 81 = .ok (.ireturn, 1) := by decide +kernel
theorem dX5_signOf_0 : decode cX5_signOf 0 = .ok (.iload_n 1, 1) := by decide +kernel
theorem dX5_signOf_1 : decode cX5_signOf 1 = .ok (.bipush 48, 2) := by decide +kernel
theorem dX5_signOf_3 : decode cX5_signOf 3 = .ok (.if_icmp .eq 9, 3) := by decide +kernel
theorem dX5_signOf_6 : decode cX5_signOf 6 = .ok (.iload_n 1, 1) := by decide +kernel
theorem dX5_signOf_7 : decode cX5_signOf 7 = .ok (.bipush 49, 2) := by decide +kernel
theorem dX5_signOf_9 : decode cX5_signOf 9 = .ok (.if_icmp .ne 10, 3) := by decide +kernel
theorem dX5_signOf_12 : decode cX5_signOf 12 = .ok (.iload_n 1, 1) := by decide +kernel
theorem dX5_signOf_13 : decode cX5_signOf 13 = .ok (.bipush 48, 2) := by decide +kernel
theorem dX5_signOf_15 : decode cX5_signOf 15 = .ok (.isub, 1) := by decide +kernel
theorem dX5_signOf_16 : decode cX5_signOf 16 = .ok (.goto 25, 3) := by decide +kernel
theorem dX5_signOf_19 : decode cX5_signOf 19 = .ok (.iload_n 1, 1) := by decide +kernel
theorem dX5_signOf_20 : decode cX5_signOf 20 = .ok (.bipush 120, 2) := by decide +kernel
theorem dX5_signOf_22 : decode cX5_signOf 22 = .ok (.if_icmp .lt 18, 3) := by decide +kernel
theorem dX5_signOf_25 : decode cX5_signOf 25 = .ok (.iload_n 1, 1) := by decide +kernel
theorem dX5_signOf_26 : decode cX5_signOf 26 = .ok (.bipush 122, 2) := by decide +kernel
theorem dX5_signOf_28 : decode cX5_signOf 28 = .ok (.if_icmp .gt 12, 3) := by decide +kernel
theorem dX5_signOf_31 : decode cX5_signOf 31 = .ok (.iconst 2, 1) := by decide +kernel
theorem dX5_signOf_32 : decode cX5_signOf 32 = .ok (.iload_n 1, 1) := by decide +kernel
theorem dX5_signOf_33 : decode cX5_signOf 33 = .ok (.iadd, 1) := by decide +kernel
theorem dX5_signOf_34 : decode cX5_signOf 34 = .ok (.bipush 120, 2) := by decide +kernel
theorem dX5_signOf_36 : decode cX5_signOf 36 = .ok (.isub, 1) := by decide +kernel
theorem dX5_signOf_37 : decode cX5_signOf 37 = .ok (.goto 4, 3) := by decide +kernel
theorem dX5_signOf_40 : decode cX5_signOf 40 = .ok (.iconst (-1), 1) := by decide +kernel
theorem dX5_signOf_41 : decode cX5_signOf 41 = .ok (.ireturn, 1) := by decide +kernel
theorem dX5_readSigns_0 : decode cX5_readSigns 0 = .ok (.iconst 0, 1) := by decide +kernel
theorem dX5_readSigns_1 : decode cX5_readSigns 1 = .ok (.istore_n 1, 1) := by decide +kernel
theorem dX5_readSigns_2 : decode cX5_readSigns 2 = .ok (.iconst 0, 1) := by decide +kernel
theorem dX5_readSigns_3 : decode cX5_readSigns 3 = .ok (.istore_n 2, 1) := by decide +kernel
theorem dX5_readSigns_4 : decode cX5_readSigns 4 = .ok (.iload_n 2, 1) := by decide +kernel
theorem dX5_readSigns_5 : decode cX5_readSigns 5 = .ok (.iconst 3, 1) := by decide +kernel
theorem dX5_readSigns_6 : decode cX5_readSigns 6 = .ok (.if_icmp .ge 16, 3) := by decide +kernel
theorem dX5_readSigns_9 : decode cX5_readSigns 9 = .ok (.aload_n 0, 1) := by decide +kernel
theorem dX5_readSigns_10 : decode cX5_readSigns 10 = .ok (.getfield 41, 3) := by decide +kernel
theorem dX5_readSigns_13 : decode cX5_readSigns 13 = .ok (.iload_n 2, 1) := by decide +kernel
theorem dX5_readSigns_14 : decode cX5_readSigns 14 = .ok (.iconst 0, 1) := by decide +kernel
theorem dX5_readSigns_15 : decode cX5_readSigns 15 = .ok (.iastore, 1) := by decide +kernel
theorem dX5_readSigns_16 : decode cX5_readSigns 16 = .ok (.iinc 2 1, 3) := by decide +kernel
theorem dX5_readSigns_19 : decode cX5_readSigns 19 = .ok (.goto (-15), 3) := by decide +kernel
theorem dX5_readSigns_22 : decode cX5_readSigns 22 = .ok (.aload_n 0, 1) := by decide +kernel
theorem dX5_readSigns_23 : decode cX5_readSigns 23 = .ok (.getfield 88, 3) := by decide +kernel
theorem dX5_readSigns_26 : decode cX5_readSigns 26 = .ok (.aload_n 0, 1) := by decide +kernel
theorem dX5_readSigns_27 : decode cX5_readSigns 27 = .ok (.getfield 85, 3) := by decide +kernel
theorem dX5_readSigns_30 : decode cX5_readSigns 30 = .ok (.if_icmp .ge 85, 3) := by decide +kernel
theorem dX5_readSigns_33 : decode cX5_readSigns 33 = .ok (.aload_n 0, 1) := by decide +kernel
theorem dX5_readSigns_34 : decode cX5_readSigns 34 = .ok (.aload_n 0, 1) := by decide +kernel
theorem dX5_readSigns_35 : decode cX5_readSigns 35 = .ok (.invokevirtual 95, 3) := by decide +kernel
theorem dX5_readSigns_38 : decode cX5_readSigns 38 = .ok (.invokevirtual 103, 3) := by decide +kernel
theorem dX5_readSigns_41 : decode cX5_readSigns 41 = .ok (.istore_n 2, 1) := by decide +kernel
theorem dX5_readSigns_42 : decode cX5_readSigns 42 = .ok (.aload_n 0, 1) := by decide +kernel
theorem dX5_readSigns_43 : decode cX5_readSigns 43 = .ok (.aload_n 0, 1) := by decide +kernel
theorem dX5_readSigns_44 : decode cX5_readSigns 44 = .ok (.getfield 91, 3) := by decide +kernel
theorem dX5_readSigns_47 : decode cX5_readSigns 47 = .ok (.ifCond .ne 13, 3) := by decide +kernel
theorem dX5_readSigns_50 : decode cX5_readSigns 50 = .ok (.iload_n 2, 1) := by decide +kernel
theorem dX5_readSigns_51 : decode cX5_readSigns 51 = .ok (.ifCond .lt 9, 3) := by decide +kernel
theorem dX5_readSigns_54 : decode cX5_readSigns 54 = .ok (.iload_n 1, 1) := by decide +kernel
theorem dX5_readSigns_55 : decode cX5_readSigns 55 = .ok (.bipush 24, 2) := by decide +kernel
theorem dX5_readSigns_57 : decode cX5_readSigns 57 = .ok (.if_icmp .ne 7, 3) := by decide +kernel
theorem dX5_readSigns_60 : decode cX5_readSigns 60 = .ok (.iconst 1, 1) := by decide +kernel
theorem dX5_readSigns_61 : decode cX5_readSigns 61 = .ok (.goto 4, 3) := by decide +kernel
theorem dX5_readSigns_64 : decode cX5_readSigns 64 = .ok (.iconst 0, 1) := by decide +kernel
theorem dX5_readSigns_65 : decode cX5_readSigns 65 = .ok (.putfield 91, 3) := by decide +kernel
theorem dX5_readSigns_68 : decode cX5_readSigns 68 = .ok (.aload_n 0, 1) := by decide +kernel
theorem dX5_readSigns_69 : decode cX5_readSigns 69 = .ok (.getfield 91, 3) := by decide +kernel
theorem dX5_readSigns_72 : decode cX5_readSigns 72 = .ok (.ifCond .ne 30, 3) := by decide +kernel
theorem dX5_readSigns_75 : decode cX5_readSigns 75 = .ok (.aload_n 0, 1) := by decide +kernel
theorem dX5_readSigns_76 : decode cX5_readSigns 76 = .ok (.getfield 38, 3) := by decide +kernel
theorem dX5_readSigns_79 : decode cX5_readSigns 79 = .ok (.iload_n 1, 1) := by decide +kernel
theorem dX5_readSigns_80 : decode cX5_readSigns 80 = .ok (.iload_n 2, 1) := by decide +kernel
theorem dX5_readSigns_81 : decode cX5_readSigns 81 = .ok (.iastore, 1) := by decide +kernel
theorem dX5_readSigns_82 : decode cX5_readSigns 82 = .ok (.iinc 1 1, 3) := by decide +kernel
theorem dX5_readSigns_85 : decode cX5_readSigns 85 = .ok (.iload_n 2, 1) := by decide +kernel
theorem dX5_readSigns_86 : decode cX5_readSigns 86 = .ok (.iconst 1, 1) := by decide +kernel
theorem dX5_readSigns_87 : decode cX5_readSigns 87 = .ok (.if_icmp .le 15, 3) := by decide +kernel
theorem dX5_readSigns_90 : decode cX5_readSigns 90 = .ok (.aload_n 0, 1) := by decide +kernel
theorem dX5_readSigns_91 : decode cX5_readSigns 91 = .ok (.getfield 41, 3) := by decide +kernel
theorem dX5_readSigns_94 : decode cX5_readSigns 94 = .ok (.iload_n 2, 1) := by decide +kernel
theorem dX5_readSigns_95 : decode cX5_readSigns 95 = .ok (.iconst 2, 1) := by decide +kernel
theorem dX5_readSigns_96 : decode cX5_readSigns 96 = .ok (.isub, 1) := by decide +kernel
theorem dX5_readSigns_97 : decode cX5_readSigns 97 = .ok (.dup2, 1) := by decide +kernel
theorem dX5_readSigns_98 : decode cX5_readSigns 98 = .ok (.iaload, 1) := by decide +kernel
theorem dX5_readSigns_99 : decode cX5_readSigns 99 = .ok (.iconst 1, 1) := by decide +kernel
theorem dX5_readSigns_100 : decode cX5_readSigns 100 = .ok (.iadd, 1) := by decide +kernel
theorem dX5_readSigns_101 : decode cX5_readSigns 101 = .ok (.iastore, 1) := by decide +kernel
theorem dX5_readSigns_102 : decode cX5_readSigns 102 = .ok (.aload_n 0, 1) := by decide +kernel
theorem dX5_readSigns_103 : decode cX5_readSigns 103 = .ok (.dup, 1) := by decide +kernel
theorem dX5_readSigns_104 : decode cX5_readSigns 104 = .ok (.getfield 88, 3) := by decide +kernel
theorem dX5_readSigns_107 : decode cX5_readSigns 107 = .ok (.iconst 1, 1) := by decide +kernel
theorem dX5_readSigns_108 : decode cX5_readSigns 108 = .ok (.iadd, 1) := by decide +kernel
theorem dX5_readSigns_109 : decode cX5_readSigns 109 = .ok (.putfield 88, 3) := by decide +kernel
theorem dX5_readSigns_112 : decode cX5_readSigns 112 = .ok (.goto (-90), 3) := by decide +kernel
theorem dX5_readSigns_115 : decode cX5_readSigns 115 = .ok (.iload_n 1, 1) := by decide +kernel
theorem dX5_readSigns_116 : decode cX5_readSigns 116 = .ok (.bipush 8, 2) := by decide +kernel
theorem dX5_readSigns_118 : decode cX5_readSigns 118 = .ok (.if_icmp .eq 15, 3) := by decide +kernel
theorem dX5_readSigns_121 : decode cX5_readSigns 121 = .ok (.iload_n 1, 1) := by decide +kernel
theorem dX5_readSigns_122 : decode cX5_readSigns 122 = .ok (.bipush 16, 2) := by decide +kernel
theorem dX5_readSigns_124 : decode cX5_readSigns 124 = .ok (.if_icmp .eq 9, 3) := by decide +kernel
theorem dX5_readSigns_127 : decode cX5_readSigns 127 = .ok (.iload_n 1, 1) := by decide +kernel
theorem dX5_readSigns_128 : decode cX5_readSigns 128 = .ok (.bipush 24, 2) := by decide +kernel
theorem dX5_readSigns_130 : decode cX5_readSigns 130 = .ok (.if_icmp .ne 7, 3) := by decide +kernel
theorem dX5_readSigns_133 : decode cX5_readSigns 133 = .ok (.iconst 1, 1) := by decide +kernel
theorem dX5_readSigns_134 : decode cX5_readSigns 134 = .ok (.goto 4, 3) := by decide +kernel
theorem dX5_readSigns_137 : decode cX5_readSigns 137 = .ok (.iconst 0, 1) := by decide +kernel
theorem dX5_readSigns_138 : decode cX5_readSigns 138 = .ok (.istore_n 2, 1) := by decide +kernel
theorem dX5_readSigns_139 : decode cX5_readSigns 139 = .ok (.aload_n 0, 1) := by decide +kernel
theorem dX5_readSigns_140 : decode cX5_readSigns 140 = .ok (.getfield 41, 3) := by decide +kernel
theorem dX5_readSigns_143 : decode cX5_readSigns 143 = .ok (.iconst 1, 1) := by decide +kernel
theorem dX5_readSigns_144 : decode cX5_readSigns 144 = .ok (.iaload, 1) := by decide +kernel
theorem dX5_readSigns_145 : decode cX5_readSigns 145 = .ok (.ifCond .eq 12, 3) := by decide +kernel
theorem dX5_readSigns_148 : decode cX5_readSigns 148 = .ok (.aload_n 0, 1) := by decide +kernel
theorem dX5_readSigns_149 : decode cX5_readSigns 149 = .ok (.getfield 41, 3) := by decide +kernel
theorem dX5_readSigns_152 : decode cX5_readSigns 152 = .ok (.iconst 0, 1) := by decide +kernel
theorem dX5_readSigns_153 : decode cX5_readSigns 153 = .ok (.iaload, 1) := by decide +kernel
theorem dX5_readSigns_154 : decode cX5_readSigns 154 = .ok (.ifCond .le 25, 3) := by decide +kernel
theorem dX5_readSigns_157 : decode cX5_readSigns 157 = .ok (.aload_n 0, 1) := by decide +kernel
theorem dX5_readSigns_158 : decode cX5_readSigns 158 = .ok (.getfield 41, 3) := by decide +kernel
theorem dX5_readSigns_161 : decode cX5_readSigns 161 = .ok (.iconst 2, 1) := by decide +kernel
theorem dX5_readSigns_162 : decode cX5_readSigns 162 = .ok (.iaload, 1) := by decide +kernel
theorem dX5_readSigns_163 : decode cX5_readSigns 163 = .ok (.ifCond .eq 12, 3) := by decide +kernel
theorem dX5_readSigns_166 : decode cX5_readSigns 166 = .ok (.aload_n 0, 1) := by decide +kernel
theorem dX5_readSigns_167 : decode cX5_readSigns 167 = .ok (.getfield 41, 3) := by decide +kernel
theorem dX5_readSigns_170 : decode cX5_readSigns 170 = .ok (.iconst 1, 1) := by decide +kernel
theorem dX5_readSigns_171 : decode cX5_readSigns 171 = .ok (.iaload, 1) := by decide +kernel
theorem dX5_readSigns_172 : decode cX5_readSigns 172 = .ok (.ifCond .le 7, 3) := by decide +kernel
theorem dX5_readSigns_175 : decode cX5_readSigns 175 = .ok (.iconst 1, 1) := by decide +kernel
theorem dX5_readSigns_176 : decode cX5_readSigns 176 = .ok (.goto 4, 3) := by decide +kernel
theorem dX5_readSigns_179 : decode cX5_readSigns 179 = .ok (.iconst 0, 1) := by decide +kernel
theorem dX5_readSigns_180 : decode cX5_readSigns 180 = .ok (.istore_n 3, 1) := by decide +kernel
theorem dX5_readSigns_181 : decode cX5_readSigns 181 = .ok (.aload_n 0, 1) := by decide +kernel
theorem dX5_readSigns_182 : decode cX5_readSigns 182 = .ok (.aload_n 0, 1) := by decide +kernel
theorem dX5_readSigns_183 : decode cX5_readSigns 183 = .ok (.getfield 91, 3) := by decide +kernel
theorem dX5_readSigns_186 : decode cX5_readSigns 186 = .ok (.ifCond .ne 44, 3) := by decide +kernel
theorem dX5_readSigns_189 : decode cX5_readSigns 189 = .ok (.iload_n 2, 1) := by decide +kernel
theorem dX5_readSigns_190 : decode cX5_readSigns 190 = .ok (.ifCond .eq 40, 3) := by decide +kernel
theorem dX5_readSigns_193 : decode cX5_readSigns 193 = .ok (.iload_n 3, 1) := by decide +kernel
theorem dX5_readSigns_194 : decode cX5_readSigns 194 = .ok (.ifCond .eq 36, 3) := by decide +kernel
theorem dX5_readSigns_197 : decode cX5_readSigns 197 = .ok (.aload_n 0, 1) := by decide +kernel
theorem dX5_readSigns_198 : decode cX5_readSigns 198 = .ok (.getfield 41, 3) := by decide +kernel
theorem dX5_readSigns_201 : decode cX5_readSigns 201 = .ok (.iconst 0, 1) := by decide +kernel
theorem dX5_readSigns_202 : decode cX5_readSigns 202 = .ok (.iaload, 1) := by decide +kernel
theorem dX5_readSigns_203 : decode cX5_readSigns 203 = .ok (.bipush 16, 2) := by decide +kernel
theorem dX5_readSigns_205 : decode cX5_readSigns 205 = .ok (.if_icmp .gt 25, 3) := by decide +kernel
theorem dX5_readSigns_208 : decode cX5_readSigns 208 = .ok (.aload_n 0, 1) := by decide +kernel
theorem dX5_readSigns_209 : decode cX5_readSigns 209 = .ok (.getfield 41, 3) := by decide +kernel
theorem dX5_readSigns_212 : decode cX5_readSigns 212 = .ok (.iconst 1, 1) := by decide +kernel
theorem dX5_readSigns_213 : decode cX5_readSigns 213 = .ok (.iaload, 1) := by decide +kernel
theorem dX5_readSigns_214 : decode cX5_readSigns 214 = .ok (.bipush 16, 2) := by decide +kernel
theorem dX5_readSigns_216 : decode cX5_readSigns 216 = .ok (.if_icmp .gt 14, 3) := by decide +kernel
theorem dX5_readSigns_219 : decode cX5_readSigns 219 = .ok (.aload_n 0, 1) := by decide +kernel
theorem dX5_readSigns_220 : decode cX5_readSigns 220 = .ok (.getfield 41, 3) := by decide +kernel
theorem dX5_readSigns_223 : decode cX5_readSigns 223 = .ok (.iconst 2, 1) := by decide +kernel
theorem dX5_readSigns_224 : decode cX5_readSigns 224 = .ok (.iaload, 1) := by decide +kernel
theorem dX5_readSigns_225 : decode cX5_readSigns 225 = .ok (.bipush 16, 2) := by decide +kernel
theorem dX5_readSigns_227 : decode cX5_readSigns 227 = .ok (.if_icmp .le 7, 3) := by decide +kernel
theorem dX5_readSigns_230 : decode cX5_readSigns 230 = .ok (.iconst 1, 1) := by decide +kernel
theorem dX5_readSigns_231 : decode cX5_readSigns 231 = .ok (.goto 4, 3) := by decide +kernel
theorem dX5_readSigns_234 : decode cX5_readSigns 234 = .ok (.iconst 0, 1) := by decide +kernel
theorem dX5_readSigns_235 : decode cX5_readSigns 235 = .ok (.putfield 91, 3) := by decide +kernel
theorem dX5_readSigns_238 : decode cX5_readSigns 238 = .ok (.iload_n 1, 1) := by decide +kernel
theorem dX5_readSigns_239 : decode cX5_readSigns 239 = .ok (.ireturn, 1) := by decide +kernel
theorem dX5_formOf_0 : decode cX5_formOf 0 = .ok (.iconst 0, 1) := by decide +kernel
theorem dX5_formOf_1 : decode cX5_formOf 1 = .ok (.istore_n 3, 1) := by decide +kernel
theorem dX5_formOf_2 : decode cX5_formOf 2 = .ok (.iload_n 3, 1) := by decide +kernel
theorem dX5_formOf_3 : decode cX5_formOf 3 = .ok (.aload_n 0, 1) := by decide +kernel
theorem dX5_formOf_4 : decode cX5_formOf 4 = .ok (.getfield 107, 3) := by decide +kernel
theorem dX5_formOf_7 : decode cX5_formOf 7 = .ok (.if_icmp .ge 31, 3) := by decide +kernel
theorem dX5_formOf_10 : decode cX5_formOf 10 = .ok (.aload_n 0, 1) := by decide +kernel
theorem dX5_formOf_11 : decode cX5_formOf 11 = .ok (.getfield 13, 3) := by decide +kernel
theorem dX5_formOf_14 : decode cX5_formOf 14 = .ok (.iload_n 3, 1) := by decide +kernel
theorem dX5_formOf_15 : decode cX5_formOf 15 = .ok (.iaload, 1) := by decide +kernel
theorem dX5_formOf_16 : decode cX5_formOf 16 = .ok (.iload_n 1, 1) := by decide +kernel
theorem dX5_formOf_17 : decode cX5_formOf 17 = .ok (.if_icmp .ne 15, 3) := by decide +kernel
theorem dX5_formOf_20 : decode cX5_formOf 20 = .ok (.aload_n 0, 1) := by decide +kernel
theorem dX5_formOf_21 : decode cX5_formOf 21 = .ok (.getfield 23, 3) := by decide +kernel
theorem dX5_formOf_24 : decode cX5_formOf 24 = .ok (.iload_n 3, 1) := by decide +kernel
theorem dX5_formOf_25 : decode cX5_formOf 25 = .ok (.iaload, 1) := by decide +kernel
theorem dX5_formOf_26 : decode cX5_formOf 26 = .ok (.iload_n 2, 1) := by decide +kernel
theorem dX5_formOf_27 : decode cX5_formOf 27 = .ok (.if_icmp .ne 5, 3) := by decide +kernel
theorem dX5_formOf_30 : decode cX5_formOf 30 = .ok (.iload_n 3, 1) := by decide +kernel
theorem dX5_formOf_31 : decode cX5_formOf 31 = .ok (.ireturn, 1) := by decide +kernel
theorem dX5_formOf_32 : decode cX5_formOf 32 = .ok (.iinc 3 1, 3) := by decide +kernel
theorem dX5_formOf_35 : decode cX5_formOf 35 = .ok (.goto (-33), 3) := by decide +kernel
theorem dX5_formOf_38 : decode cX5_formOf 38 = .ok (.iconst (-1), 1) := by decide +kernel
theorem dX5_formOf_39 : decode cX5_formOf 39 = .ok (.ireturn, 1) := by decide +kernel
theorem dX5_form_0 : decode cX5_form 0 = .ok (.aload_n 0, 1) := by decide +kernel
theorem dX5_form_1 : decode cX5_form 1 = .ok (.iconst 0, 1) := by decide +kernel
theorem dX5_form_2 : decode cX5_form 2 = .ok (.putfield 88, 3) := by decide +kernel
theorem dX5_form_5 : decode cX5_form 5 = .ok (.aload_n 0, 1) := by decide +kernel
theorem dX5_form_6 : decode cX5_form 6 = .ok (.iconst 0, 1) := by decide +kernel
theorem dX5_form_7 : decode cX5_form 7 = .ok (.putfield 91, 3) := by decide +kernel
theorem dX5_form_10 : decode cX5_form 10 = .ok (.aload_n 0, 1) := by decide +kernel
theorem dX5_form_11 : decode cX5_form 11 = .ok (.invokevirtual 110, 3) := by decide +kernel
theorem dX5_form_14 : decode cX5_form 14 = .ok (.istore_n 1, 1) := by decide +kernel
theorem dX5_form_15 : decode cX5_form 15 = .ok (.aload_n 0, 1) := by decide +kernel
theorem dX5_form_16 : decode cX5_form 16 = .ok (.bipush 32, 2) := by decide +kernel
theorem dX5_form_18 : decode cX5_form 18 = .ok (.invokevirtual 113, 3) := by decide +kernel
theorem dX5_form_21 : decode cX5_form 21 = .ok (.aload_n 0, 1) := by decide +kernel
theorem dX5_form_22 : decode cX5_form 22 = .ok (.invokevirtual 117, 3) := by decide +kernel
theorem dX5_form_25 : decode cX5_form 25 = .ok (.istore_n 2, 1) := by decide +kernel
theorem dX5_form_26 : decode cX5_form 26 = .ok (.aload_n 0, 1) := by decide +kernel
theorem dX5_form_27 : decode cX5_form 27 = .ok (.iconst 0, 1) := by decide +kernel
theorem dX5_form_28 : decode cX5_form 28 = .ok (.putfield 85, 3) := by decide +kernel
theorem dX5_form_31 : decode cX5_form 31 = .ok (.aload_n 0, 1) := by decide +kernel
theorem dX5_form_32 : decode cX5_form 32 = .ok (.getfield 41, 3) := by decide +kernel
theorem dX5_form_35 : decode cX5_form 35 = .ok (.iconst 2, 1) := by decide +kernel
theorem dX5_form_36 : decode cX5_form 36 = .ok (.iaload, 1) := by decide +kernel
theorem dX5_form_37 : decode cX5_form 37 = .ok (.ifCond .le 7, 3) := by decide +kernel
theorem dX5_form_40 : decode cX5_form 40 = .ok (.iconst 3, 1) := by decide +kernel
theorem dX5_form_41 : decode cX5_form 41 = .ok (.goto 30, 3) := by decide +kernel
theorem dX5_form_44 : decode cX5_form 44 = .ok (.aload_n 0, 1) := by decide +kernel
theorem dX5_form_45 : decode cX5_form 45 = .ok (.getfield 41, 3) := by decide +kernel
theorem dX5_form_48 : decode cX5_form 48 = .ok (.iconst 1, 1) := by decide +kernel
theorem dX5_form_49 : decode cX5_form 49 = .ok (.iaload, 1) := by decide +kernel
theorem dX5_form_50 : decode cX5_form 50 = .ok (.ifCond .le 7, 3) := by decide +kernel
theorem dX5_form_53 : decode cX5_form 53 = .ok (.iconst 2, 1) := by decide +kernel
theorem dX5_form_54 : decode cX5_form 54 = .ok (.goto 17, 3) := by decide +kernel
theorem dX5_form_57 : decode cX5_form 57 = .ok (.aload_n 0, 1) := by decide +kernel
theorem dX5_form_58 : decode cX5_form 58 = .ok (.getfield 41, 3) := by decide +kernel
theorem dX5_form_61 : decode cX5_form 61 = .ok (.iconst 0, 1) := by decide +kernel
theorem dX5_form_62 : decode cX5_form 62 = .ok (.iaload, 1) := by decide +kernel
theorem dX5_form_63 : decode cX5_form 63 = .ok (.ifCond .le 7, 3) := by decide +kernel
theorem dX5_form_66 : decode cX5_form 66 = .ok (.iconst 1, 1) := by decide +kernel
theorem dX5_form_67 : decode cX5_form 67 = .ok (.goto 4, 3) := by decide +kernel
theorem dX5_form_70 : decode cX5_form 70 = .ok (.iconst 0, 1) := by decide +kernel
theorem dX5_form_71 : decode cX5_form 71 = .ok (.istore_n 3, 1) := by decide +kernel
theorem dX5_form_72 : decode cX5_form 72 = .ok (.aload_n 0, 1) := by decide +kernel
theorem dX5_form_73 : decode cX5_form 73 = .ok (.aload_n 0, 1) := by decide +kernel
theorem dX5_form_74 : decode cX5_form 74 = .ok (.getfield 91, 3) := by decide +kernel
theorem dX5_form_77 : decode cX5_form 77 = .ok (.ifCond .eq 7, 3) := by decide +kernel
theorem dX5_form_80 : decode cX5_form 80 = .ok (.iconst 1, 1) := by decide +kernel
theorem dX5_form_81 : decode cX5_form 81 = .ok (.goto 26, 3) := by decide +kernel
theorem dX5_form_84 : decode cX5_form 84 = .ok (.aload_n 0, 1) := by decide +kernel
theorem dX5_form_85 : decode cX5_form 85 = .ok (.getfield 107, 3) := by decide +kernel
theorem dX5_form_88 : decode cX5_form 88 = .ok (.bipush 12, 2) := by decide +kernel
theorem dX5_form_90 : decode cX5_form 90 = .ok (.if_icmp .eq 12, 3) := by decide +kernel
theorem dX5_form_93 : decode cX5_form 93 = .ok (.aload_n 0, 1) := by decide +kernel
theorem dX5_form_94 : decode cX5_form 94 = .ok (.iload_n 1, 1) := by decide +kernel
theorem dX5_form_95 : decode cX5_form 95 = .ok (.iload_n 3, 1) := by decide +kernel
theorem dX5_form_96 : decode cX5_form 96 = .ok (.invokevirtual 120, 3) := by decide +kernel
theorem dX5_form_99 : decode cX5_form 99 = .ok (.ifCond .lt 7, 3) := by decide +kernel
theorem dX5_form_102 : decode cX5_form 102 = .ok (.iconst 2, 1) := by decide +kernel
theorem dX5_form_103 : decode cX5_form 103 = .ok (.goto 4, 3) := by decide +kernel
theorem dX5_form_106 : decode cX5_form 106 = .ok (.iconst 0, 1) := by decide +kernel
theorem dX5_form_107 : decode cX5_form 107 = .ok (.putfield 82, 3) := by decide +kernel
theorem dX5_form_110 : decode cX5_form 110 = .ok (.aload_n 0, 1) := by decide +kernel
theorem dX5_form_111 : decode cX5_form 111 = .ok (.getfield 82, 3) := by decide +kernel
theorem dX5_form_114 : decode cX5_form 114 = .ok (.ifCond .eq 5, 3) := by decide +kernel
theorem dX5_form_117 : decode cX5_form 117 = .ok (.iconst 0, 1) := by decide +kernel
theorem dX5_form_118 : decode cX5_form 118 = .ok (.ireturn, 1) := by decide +kernel
theorem dX5_form_119 : decode cX5_form 119 = .ok (.aload_n 0, 1) := by decide +kernel
theorem dX5_form_120 : decode cX5_form 120 = .ok (.getfield 13, 3) := by decide +kernel
theorem dX5_form_123 : decode cX5_form 123 = .ok (.aload_n 0, 1) := by decide +kernel
theorem dX5_form_124 : decode cX5_form 124 = .ok (.getfield 107, 3) := by decide +kernel
theorem dX5_form_127 : decode cX5_form 127 = .ok (.iload_n 1, 1) := by decide +kernel
theorem dX5_form_128 : decode cX5_form 128 = .ok (.iastore, 1) := by decide +kernel
theorem dX5_form_129 : decode cX5_form 129 = .ok (.aload_n 0, 1) := by decide +kernel
theorem dX5_form_130 : decode cX5_form 130 = .ok (.getfield 17, 3) := by decide +kernel
theorem dX5_form_133 : decode cX5_form 133 = .ok (.aload_n 0, 1) := by decide +kernel
theorem dX5_form_134 : decode cX5_form 134 = .ok (.getfield 107, 3) := by decide +kernel
theorem dX5_form_137 : decode cX5_form 137 = .ok (.iload_n 2, 1) := by decide +kernel
theorem dX5_form_138 : decode cX5_form 138 = .ok (.iastore, 1) := by decide +kernel
theorem dX5_form_139 : decode cX5_form 139 = .ok (.aload_n 0, 1) := by decide +kernel
theorem dX5_form_140 : decode cX5_form 140 = .ok (.getfield 23, 3) := by decide +kernel
theorem dX5_form_143 : decode cX5_form 143 = .ok (.aload_n 0, 1) := by decide +kernel
theorem dX5_form_144 : decode cX5_form 144 = .ok (.getfield 107, 3) := by decide +kernel
theorem dX5_form_147 : decode cX5_form 147 = .ok (.iload_n 3, 1) := by decide +kernel
theorem dX5_form_148 : decode cX5_form 148 = .ok (.iastore, 1) := by decide +kernel
theorem dX5_form_149 : decode cX5_form 149 = .ok (.iconst 0, 1) := by decide +kernel
theorem dX5_form_150 : decode cX5_form 150 = .ok (.istore 4, 2) := by decide +kernel
theorem dX5_form_152 : decode cX5_form 152 = .ok (.iload 4, 2) := by decide +kernel
theorem dX5_form_154 : decode cX5_form 154 = .ok (.iload_n 2, 1) := by decide +kernel
theorem dX5_form_155 : decode cX5_form 155 = .ok (.if_icmp .ge 31, 3) := by decide +kernel
theorem dX5_form_158 : decode cX5_form 158 = .ok (.aload_n 0, 1) := by decide +kernel
theorem dX5_form_159 : decode cX5_form 159 = .ok (.getfield 20, 3) := by decide +kernel
theorem dX5_form_162 : decode cX5_form 162 = .ok (.bipush 24, 2) := by decide +kernel
theorem dX5_form_164 : decode cX5_form 164 = .ok (.aload_n 0, 1) := by decide +kernel
theorem dX5_form_165 : decode cX5_form 165 = .ok (.getfield 107, 3) := by decide +kernel
theorem dX5_form_168 : decode cX5_form 168 = .ok (.imul, 1) := by decide +kernel
theorem dX5_form_169 : decode cX5_form 169 = .ok (.iload 4, 2) := by decide +kernel
theorem dX5_form_171 : decode cX5_form 171 = .ok (.iadd, 1) := by decide +kernel
theorem dX5_form_172 : decode cX5_form 172 = .ok (.aload_n 0, 1) := by decide +kernel
theorem dX5_form_173 : decode cX5_form 173 = .ok (.getfield 38, 3) := by decide +kernel
theorem dX5_form_176 : decode cX5_form 176 = .ok (.iload 4, 2) := by decide +kernel
theorem dX5_form_178 : decode cX5_form 178 = .ok (.iaload, 1) := by decide +kernel
theorem dX5_form_179 : decode cX5_form 179 = .ok (.iastore, 1) := by decide +kernel
theorem dX5_form_180 : decode cX5_form 180 = .ok (.iinc 4 1, 3) := by decide +kernel
theorem dX5_form_183 : decode cX5_form 183 = .ok (.goto (-31), 3) := by decide +kernel
theorem dX5_form_186 : decode cX5_form 186 = .ok (.iconst 0, 1) := by decide +kernel
theorem dX5_form_187 : decode cX5_form 187 = .ok (.istore 4, 2) := by decide +kernel
theorem dX5_form_189 : decode cX5_form 189 = .ok (.iload 4, 2) := by decide +kernel
theorem dX5_form_191 : decode cX5_form 191 = .ok (.iconst 3, 1) := by decide +kernel
theorem dX5_form_192 : decode cX5_form 192 = .ok (.if_icmp .ge 75, 3) := by decide +kernel
theorem dX5_form_195 : decode cX5_form 195 = .ok (.aload_n 0, 1) := by decide +kernel
theorem dX5_form_196 : decode cX5_form 196 = .ok (.getfield 26, 3) := by decide +kernel
theorem dX5_form_199 : decode cX5_form 199 = .ok (.iconst 3, 1) := by decide +kernel
theorem dX5_form_200 : decode cX5_form 200 = .ok (.aload_n 0, 1) := by decide +kernel
theorem dX5_form_201 : decode cX5_form 201 = .ok (.getfield 107, 3) := by decide +kernel
theorem dX5_form_204 : decode cX5_form 204 = .ok (.imul, 1) := by decide +kernel
theorem dX5_form_205 : decode cX5_form 205 = .ok (.iload 4, 2) := by decide +kernel
theorem dX5_form_207 : decode cX5_form 207 = .ok (.iadd, 1) := by decide +kernel
theorem dX5_form_208 : decode cX5_form 208 = .ok (.aload_n 0, 1) := by decide +kernel
theorem dX5_form_209 : decode cX5_form 209 = .ok (.getfield 41, 3) := by decide +kernel
theorem dX5_form_212 : decode cX5_form 212 = .ok (.iload 4, 2) := by decide +kernel
theorem dX5_form_214 : decode cX5_form 214 = .ok (.iaload, 1) := by decide +kernel
theorem dX5_form_215 : decode cX5_form 215 = .ok (.iastore, 1) := by decide +kernel
theorem dX5_form_216 : decode cX5_form 216 = .ok (.aload_n 0, 1) := by decide +kernel
theorem dX5_form_217 : decode cX5_form 217 = .ok (.getfield 29, 3) := by decide +kernel
theorem dX5_form_220 : decode cX5_form 220 = .ok (.iconst 3, 1) := by decide +kernel
theorem dX5_form_221 : decode cX5_form 221 = .ok (.aload_n 0, 1) := by decide +kernel
theorem dX5_form_222 : decode cX5_form 222 = .ok (.getfield 107, 3) := by decide +kernel
theorem dX5_form_225 : decode cX5_form 225 = .ok (.imul, 1) := by decide +kernel
theorem dX5_form_226 : decode cX5_form 226 = .ok (.iload 4, 2) := by decide +kernel
theorem dX5_form_228 : decode cX5_form 228 = .ok (.iadd, 1) := by decide +kernel
theorem dX5_form_229 : decode cX5_form 229 = .ok (.iconst 0, 1) := by decide +kernel
theorem dX5_form_230 : decode cX5_form 230 = .ok (.iastore, 1) := by decide +kernel
theorem dX5_form_231 : decode cX5_form 231 = .ok (.aload_n 0, 1) := by decide +kernel
theorem dX5_form_232 : decode cX5_form 232 = .ok (.getfield 32, 3) := by decide +kernel
theorem dX5_form_235 : decode cX5_form 235 = .ok (.iconst 3, 1) := by decide +kernel
theorem dX5_form_236 : decode cX5_form 236 = .ok (.aload_n 0, 1) := by decide +kernel
theorem dX5_form_237 : decode cX5_form 237 = .ok (.getfield 107, 3) := by decide +kernel
theorem dX5_form_240 : decode cX5_form 240 = .ok (.imul, 1) := by decide +kernel
theorem dX5_form_241 : decode cX5_form 241 = .ok (.iload 4, 2) := by decide +kernel
theorem dX5_form_243 : decode cX5_form 243 = .ok (.iadd, 1) := by decide +kernel
theorem dX5_form_244 : decode cX5_form 244 = .ok (.iconst 1, 1) := by decide +kernel
theorem dX5_form_245 : decode cX5_form 245 = .ok (.iastore, 1) := by decide +kernel
theorem dX5_form_246 : decode cX5_form 246 = .ok (.aload_n 0, 1) := by decide +kernel
theorem dX5_form_247 : decode cX5_form 247 = .ok (.getfield 35, 3) := by decide +kernel
theorem dX5_form_250 : decode cX5_form 250 = .ok (.iconst 3, 1) := by decide +kernel
theorem dX5_form_251 : decode cX5_form 251 = .ok (.aload_n 0, 1) := by decide +kernel
theorem dX5_form_252 : decode cX5_form 252 = .ok (.getfield 107, 3) := by decide +kernel
theorem dX5_form_255 : decode cX5_form 255 = .ok (.imul, 1) := by decide +kernel
theorem dX5_form_256 : decode cX5_form 256 = .ok (.iload 4, 2) := by decide +kernel
theorem dX5_form_258 : decode cX5_form 258 = .ok (.iadd, 1) := by decide +kernel
theorem dX5_form_259 : decode cX5_form 259 = .ok (.iconst 0, 1) := by decide +kernel
theorem dX5_form_260 : decode cX5_form 260 = .ok (.iastore, 1) := by decide +kernel
theorem dX5_form_261 : decode cX5_form 261 = .ok (.iinc 4 1, 3) := by decide +kernel
theorem dX5_form_264 : decode cX5_form 264 = .ok (.goto (-75), 3) := by decide +kernel
theorem dX5_form_267 : decode cX5_form 267 = .ok (.aload_n 0, 1) := by decide +kernel
theorem dX5_form_268 : decode cX5_form 268 = .ok (.dup, 1) := by decide +kernel
theorem dX5_form_269 : decode cX5_form 269 = .ok (.getfield 107, 3) := by decide +kernel
theorem dX5_form_272 : decode cX5_form 272 = .ok (.iconst 1, 1) := by decide +kernel
theorem dX5_form_273 : decode cX5_form 273 = .ok (.iadd, 1) := by decide +kernel
theorem dX5_form_274 : decode cX5_form 274 = .ok (.putfield 107, 3) := by decide +kernel
theorem dX5_form_277 : decode cX5_form 277 = .ok (.aload_n 0, 1) := by decide +kernel
theorem dX5_form_278 : decode cX5_form 278 = .ok (.iconst 0, 1) := by decide +kernel
theorem dX5_form_279 : decode cX5_form 279 = .ok (.putfield 124, 3) := by decide +kernel
theorem dX5_form_282 : decode cX5_form 282 = .ok (.aload_n 0, 1) := by decide +kernel
theorem dX5_form_283 : decode cX5_form 283 = .ok (.getfield 107, 3) := by decide +kernel
theorem dX5_form_286 : decode cX5_form 286 = .ok (.iconst 1, 1) := by decide +kernel
theorem dX5_form_287 : decode cX5_form 287 = .ok (.isub, 1) := by decide +kernel
theorem dX5_form_288 : decode cX5_form 288 = .ok (.ireturn, 1) := by decide +kernel
theorem dX5_outside_0 : decode cX5_outside 0 = .ok (.iload_n 0, 1) := by decide +kernel
theorem dX5_outside_1 : decode cX5_outside 1 = .ok (.iload_n 1, 1) := by decide +kernel
theorem dX5_outside_2 : decode cX5_outside 2 = .ok (.if_icmp .lt 8, 3) := by decide +kernel
theorem dX5_outside_5 : decode cX5_outside 5 = .ok (.iload_n 0, 1) := by decide +kernel
theorem dX5_outside_6 : decode cX5_outside 6 = .ok (.iload_n 2, 1) := by decide +kernel
theorem dX5_outside_7 : decode cX5_outside 7 = .ok (.if_icmp .le 7, 3) := by decide +kernel
theorem dX5_outside_10 : decode cX5_outside 10 = .ok (.iconst 1, 1) := by decide +kernel
theorem dX5_outside_11 : decode cX5_outside 11 = .ok (.goto 4, 3) := by decide +kernel
theorem dX5_outside_14 : decode cX5_outside 14 = .ok (.iconst 0, 1) := by decide +kernel
theorem dX5_outside_15 : decode cX5_outside 15 = .ok (.ireturn, 1) := by decide +kernel
theorem dX5_operand_0 : decode cX5_operand 0 = .ok (.iload_n 1, 1) := by decide +kernel
theorem dX5_operand_1 : decode cX5_operand 1 = .ok (.ifCond .lt 45, 3) := by decide +kernel
theorem dX5_operand_4 : decode cX5_operand 4 = .ok (.iload_n 1, 1) := by decide +kernel
theorem dX5_operand_5 : decode cX5_operand 5 = .ok (.aload_n 0, 1) := by decide +kernel
theorem dX5_operand_6 : decode cX5_operand 6 = .ok (.getfield 107, 3) := by decide +kernel
theorem dX5_operand_9 : decode cX5_operand 9 = .ok (.if_icmp .ge 37, 3) := by decide +kernel
theorem dX5_operand_12 : decode cX5_operand 12 = .ok (.iload_n 2, 1) := by decide +kernel
theorem dX5_operand_13 : decode cX5_operand 13 = .ok (.ifCond .lt 33, 3) := by decide +kernel
theorem dX5_operand_16 : decode cX5_operand 16 = .ok (.iload_n 2, 1) := by decide +kernel
theorem dX5_operand_17 : decode cX5_operand 17 = .ok (.aload_n 0, 1) := by decide +kernel
theorem dX5_operand_18 : decode cX5_operand 18 = .ok (.getfield 23, 3) := by decide +kernel
theorem dX5_operand_21 : decode cX5_operand 21 = .ok (.iload_n 1, 1) := by decide +kernel
theorem dX5_operand_22 : decode cX5_operand 22 = .ok (.ifCond .lt 11, 3) := by decide +kernel
theorem dX5_operand_25 : decode cX5_operand 25 = .ok (.iload_n 1, 1) := by decide +kernel
theorem dX5_operand_26 : decode cX5_operand 26 = .ok (.aload_n 0, 1) := by decide +kernel
theorem dX5_operand_27 : decode cX5_operand 27 = .ok (.getfield 107, 3) := by decide +kernel
theorem dX5_operand_30 : decode cX5_operand 30 = .ok (.if_icmp .lt 7, 3) := by decide +kernel
theorem dX5_operand_33 : decode cX5_operand 33 = .ok (.iconst 0, 1) := by decide +kernel
theorem dX5_operand_34 : decode cX5_operand 34 = .ok (.goto 4, 3) := by decide +kernel
theorem dX5_operand_37 : decode cX5_operand 37 = .ok (.iload_n 1, 1) := by decide +kernel
theorem dX5_operand_38 : decode cX5_operand 38 = .ok (.iaload, 1) := by decide +kernel
theorem dX5_operand_39 : decode cX5_operand 39 = .ok (.if_icmp .ge 7, 3) := by decide +kernel
theorem dX5_operand_42 : decode cX5_operand 42 = .ok (.iconst 1, 1) := by decide +kernel
theorem dX5_operand_43 : decode cX5_operand 43 = .ok (.goto 4, 3) := by decide +kernel
theorem dX5_operand_46 : decode cX5_operand 46 = .ok (.iconst 0, 1) := by decide +kernel
theorem dX5_operand_47 : decode cX5_operand 47 = .ok (.istore 6, 2) := by decide +kernel
theorem dX5_operand_49 : decode cX5_operand 49 = .ok (.aload_n 0, 1) := by decide +kernel
theorem dX5_operand_50 : decode cX5_operand 50 = .ok (.iload 6, 2) := by decide +kernel
theorem dX5_operand_52 : decode cX5_operand 52 = .ok (.ifCond .eq 35, 3) := by decide +kernel
theorem dX5_operand_55 : decode cX5_operand 55 = .ok (.iload_n 3, 1) := by decide +kernel
theorem dX5_operand_56 : decode cX5_operand 56 = .ok (.iconst 0, 1) := by decide +kernel
theorem dX5_operand_57 : decode cX5_operand 57 = .ok (.iconst 2, 1) := by decide +kernel
theorem dX5_operand_58 : decode cX5_operand 58 = .ok (.invokestatic 127, 3) := by decide +kernel
theorem dX5_operand_61 : decode cX5_operand 61 = .ok (.ifCond .ne 26, 3) := by decide +kernel
theorem dX5_operand_64 : decode cX5_operand 64 = .ok (.iload 4, 2) := by decide +kernel
theorem dX5_operand_66 : decode cX5_operand 66 = .ok (.iconst 1, 1) := by decide +kernel
theorem dX5_operand_67 : decode cX5_operand 67 = .ok (.bipush 8, 2) := by decide +kernel
theorem dX5_operand_69 : decode cX5_operand 69 = .ok (.invokestatic 127, 3) := by decide +kernel
theorem dX5_operand_72 : decode cX5_operand 72 = .ok (.ifCond .ne 15, 3) := by decide +kernel
theorem dX5_operand_75 : decode cX5_operand 75 = .ok (.iload 5, 2) := by decide +kernel
theorem dX5_operand_77 : decode cX5_operand 77 = .ok (.bipush (-100), 2) := by decide +kernel
theorem dX5_operand_79 : decode cX5_operand 79 = .ok (.bipush 100, 2) := by decide +kernel
theorem dX5_operand_81 : decode cX5_operand 81 = .ok (.invokestatic 127, 3) := by decide +kernel
theorem dX5_operand_84 : decode cX5_operand 84 = .ok (.ifCond .eq 7, 3) := by decide +kernel
theorem dX5_operand_87 : decode cX5_operand 87 = .ok (.iconst 1, 1) := by decide +kernel
theorem dX5_operand_88 : decode cX5_operand 88 = .ok (.goto 4, 3) := by decide +kernel
theorem dX5_operand_91 : decode cX5_operand 91 = .ok (.iconst 0, 1) := by decide +kernel
theorem dX5_operand_92 : decode cX5_operand 92 = .ok (.putfield 82, 3) := by decide +kernel
theorem dX5_operand_95 : decode cX5_operand 95 = .ok (.aload_n 0, 1) := by decide +kernel
theorem dX5_operand_96 : decode cX5_operand 96 = .ok (.getfield 82, 3) := by decide +kernel
theorem dX5_operand_99 : decode cX5_operand 99 = .ok (.ifCond .eq 5, 3) := by decide +kernel
theorem dX5_operand_102 : decode cX5_operand 102 = .ok (.iconst 0, 1) := by decide +kernel
theorem dX5_operand_103 : decode cX5_operand 103 = .ok (.ireturn, 1) := by decide +kernel
theorem dX5_operand_104 : decode cX5_operand 104 = .ok (.aload_n 0, 1) := by decide +kernel
theorem dX5_operand_105 : decode cX5_operand 105 = .ok (.getfield 29, 3) := by decide +kernel
theorem dX5_operand_108 : decode cX5_operand 108 = .ok (.iconst 3, 1) := by decide +kernel
theorem dX5_operand_109 : decode cX5_operand 109 = .ok (.iload_n 1, 1) := by decide +kernel
theorem dX5_operand_110 : decode cX5_operand 110 = .ok (.imul, 1) := by decide +kernel
theorem dX5_operand_111 : decode cX5_operand 111 = .ok (.iload_n 2, 1) := by decide +kernel
theorem dX5_operand_112 : decode cX5_operand 112 = .ok (.iadd, 1) := by decide +kernel
theorem dX5_operand_113 : decode cX5_operand 113 = .ok (.iload_n 3, 1) := by decide +kernel
theorem dX5_operand_114 : decode cX5_operand 114 = .ok (.iastore, 1) := by decide +kernel
theorem dX5_operand_115 : decode cX5_operand 115 = .ok (.aload_n 0, 1) := by decide +kernel
theorem dX5_operand_116 : decode cX5_operand 116 = .ok (.getfield 32, 3) := by decide +kernel
theorem dX5_operand_119 : decode cX5_operand 119 = .ok (.iconst 3, 1) := by decide +kernel
theorem dX5_operand_120 : decode cX5_operand 120 = .ok (.iload_n 1, 1) := by decide +kernel
theorem dX5_operand_121 : decode cX5_operand 121 = .ok (.imul, 1) := by decide +kernel
theorem dX5_operand_122 : decode cX5_operand 122 = .ok (.iload_n 2, 1) := by decide +kernel
theorem dX5_operand_123 : decode cX5_operand 123 = .ok (.iadd, 1) := by decide +kernel
theorem dX5_operand_124 : decode cX5_operand 124 = .ok (.iload 4, 2) := by decide +kernel
theorem dX5_operand_126 : decode cX5_operand 126 = .ok (.iastore, 1) := by decide +kernel
theorem dX5_operand_127 : decode cX5_operand 127 = .ok (.aload_n 0, 1) := by decide +kernel
theorem dX5_operand_128 : decode cX5_operand 128 = .ok (.getfield 35, 3) := by decide +kernel
theorem dX5_operand_131 : decode cX5_operand 131 = .ok (.iconst 3, 1) := by decide +kernel
theorem dX5_operand_132 : decode cX5_operand 132 = .ok (.iload_n 1, 1) := by decide +kernel
theorem dX5_operand_133 : decode cX5_operand 133 = .ok (.imul, 1) := by decide +kernel
theorem dX5_operand_134 : decode cX5_operand 134 = .ok (.iload_n 2, 1) := by decide +kernel
theorem dX5_operand_135 : decode cX5_operand 135 = .ok (.iadd, 1) := by decide +kernel
theorem dX5_operand_136 : decode cX5_operand 136 = .ok (.iload 5, 2) := by decide +kernel
theorem dX5_operand_138 : decode cX5_operand 138 = .ok (.iastore, 1) := by decide +kernel
theorem dX5_operand_139 : decode cX5_operand 139 = .ok (.aload_n 0, 1) := by decide +kernel
theorem dX5_operand_140 : decode cX5_operand 140 = .ok (.getfield 26, 3) := by decide +kernel
theorem dX5_operand_143 : decode cX5_operand 143 = .ok (.iconst 3, 1) := by decide +kernel
theorem dX5_operand_144 : decode cX5_operand 144 = .ok (.iload_n 1, 1) := by decide +kernel
theorem dX5_operand_145 : decode cX5_operand 145 = .ok (.imul, 1) := by decide +kernel
theorem dX5_operand_146 : decode cX5_operand 146 = .ok (.iload_n 2, 1) := by decide +kernel
theorem dX5_operand_147 : decode cX5_operand 147 = .ok (.iadd, 1) := by decide +kernel
theorem dX5_operand_148 : decode cX5_operand 148 = .ok (.iaload, 1) := by decide +kernel
theorem dX5_operand_149 : decode cX5_operand 149 = .ok (.ireturn, 1) := by decide +kernel
theorem dX5_fixed_0 : decode cX5_fixed 0 = .ok (.iload_n 2, 1) := by decide +kernel
theorem dX5_fixed_1 : decode cX5_fixed 1 = .ok (.aload_n 0, 1) := by decide +kernel
theorem dX5_fixed_2 : decode cX5_fixed 2 = .ok (.getfield 17, 3) := by decide +kernel
theorem dX5_fixed_5 : decode cX5_fixed 5 = .ok (.iload_n 1, 1) := by decide +kernel
theorem dX5_fixed_6 : decode cX5_fixed 6 = .ok (.iaload, 1) := by decide +kernel
theorem dX5_fixed_7 : decode cX5_fixed 7 = .ok (.if_icmp .ge 32, 3) := by decide +kernel
theorem dX5_fixed_10 : decode cX5_fixed 10 = .ok (.aload_n 0, 1) := by decide +kernel
theorem dX5_fixed_11 : decode cX5_fixed 11 = .ok (.getfield 20, 3) := by decide +kernel
theorem dX5_fixed_14 : decode cX5_fixed 14 = .ok (.bipush 24, 2) := by decide +kernel
theorem dX5_fixed_16 : decode cX5_fixed 16 = .ok (.iload_n 1, 1) := by decide +kernel
theorem dX5_fixed_17 : decode cX5_fixed 17 = .ok (.imul, 1) := by decide +kernel
theorem dX5_fixed_18 : decode cX5_fixed 18 = .ok (.iload_n 2, 1) := by decide +kernel
theorem dX5_fixed_19 : decode cX5_fixed 19 = .ok (.iadd, 1) := by decide +kernel
theorem dX5_fixed_20 : decode cX5_fixed 20 = .ok (.iaload, 1) := by decide +kernel
theorem dX5_fixed_21 : decode cX5_fixed 21 = .ok (.iconst 2, 1) := by decide +kernel
theorem dX5_fixed_22 : decode cX5_fixed 22 = .ok (.if_icmp .ge 17, 3) := by decide +kernel
theorem dX5_fixed_25 : decode cX5_fixed 25 = .ok (.aload_n 0, 1) := by decide +kernel
theorem dX5_fixed_26 : decode cX5_fixed 26 = .ok (.getfield 20, 3) := by decide +kernel
theorem dX5_fixed_29 : decode cX5_fixed 29 = .ok (.bipush 24, 2) := by decide +kernel
theorem dX5_fixed_31 : decode cX5_fixed 31 = .ok (.iload_n 1, 1) := by decide +kernel
theorem dX5_fixed_32 : decode cX5_fixed 32 = .ok (.imul, 1) := by decide +kernel
theorem dX5_fixed_33 : decode cX5_fixed 33 = .ok (.iload_n 2, 1) := by decide +kernel
theorem dX5_fixed_34 : decode cX5_fixed 34 = .ok (.iadd, 1) := by decide +kernel
theorem dX5_fixed_35 : decode cX5_fixed 35 = .ok (.iaload, 1) := by decide +kernel
theorem dX5_fixed_36 : decode cX5_fixed 36 = .ok (.goto 4, 3) := by decide +kernel
theorem dX5_fixed_39 : decode cX5_fixed 39 = .ok (.iconst (-1), 1) := by decide +kernel
theorem dX5_fixed_40 : decode cX5_fixed 40 = .ok (.ireturn, 1) := by decide +kernel
theorem dX5_isNarrower_0 : decode cX5_isNarrower 0 = .ok (.iconst 0, 1) := by decide +kernel
theorem dX5_isNarrower_1 : decode cX5_isNarrower 1 = .ok (.istore_n 3, 1) := by decide +kernel
theorem dX5_isNarrower_2 : decode cX5_isNarrower 2 = .ok (.iconst 0, 1) := by decide +kernel
theorem dX5_isNarrower_3 : decode cX5_isNarrower 3 = .ok (.istore 4, 2) := by decide +kernel
theorem dX5_isNarrower_5 : decode cX5_isNarrower 5 = .ok (.iconst 0, 1) := by decide +kernel
theorem dX5_isNarrower_6 : decode cX5_isNarrower 6 = .ok (.istore 5, 2) := by decide +kernel
theorem dX5_isNarrower_8 : decode cX5_isNarrower 8 = .ok (.iload 5, 2) := by decide +kernel
theorem dX5_isNarrower_10 : decode cX5_isNarrower 10 = .ok (.bipush 24, 2) := by decide +kernel
theorem dX5_isNarrower_12 : decode cX5_isNarrower 12 = .ok (.if_icmp .ge 70, 3) := by decide +kernel
theorem dX5_isNarrower_15 : decode cX5_isNarrower 15 = .ok (.aload_n 0, 1) := by decide +kernel
theorem dX5_isNarrower_16 : decode cX5_isNarrower 16 = .ok (.iload_n 1, 1) := by decide +kernel
theorem dX5_isNarrower_17 : decode cX5_isNarrower 17 = .ok (.iload 5, 2) := by decide +kernel
theorem dX5_isNarrower_19 : decode cX5_isNarrower 19 = .ok (.invokevirtual 131, 3) := by decide +kernel
theorem dX5_isNarrower_22 : decode cX5_isNarrower 22 = .ok (.istore 6, 2) := by decide +kernel
theorem dX5_isNarrower_24 : decode cX5_isNarrower 24 = .ok (.aload_n 0, 1) := by decide +kernel
theorem dX5_isNarrower_25 : decode cX5_isNarrower 25 = .ok (.iload_n 2, 1) := by decide +kernel
theorem dX5_isNarrower_26 : decode cX5_isNarrower 26 = .ok (.iload 5, 2) := by decide +kernel
theorem dX5_isNarrower_28 : decode cX5_isNarrower 28 = .ok (.invokevirtual 131, 3) := by decide +kernel
theorem dX5_isNarrower_31 : decode cX5_isNarrower 31 = .ok (.istore 7, 2) := by decide +kernel
theorem dX5_isNarrower_33 : decode cX5_isNarrower 33 = .ok (.iload 7, 2) := by decide +kernel
theorem dX5_isNarrower_35 : decode cX5_isNarrower 35 = .ok (.ifCond .lt 12, 3) := by decide +kernel
theorem dX5_isNarrower_38 : decode cX5_isNarrower 38 = .ok (.iload 6, 2) := by decide +kernel
theorem dX5_isNarrower_40 : decode cX5_isNarrower 40 = .ok (.iload 7, 2) := by decide +kernel
theorem dX5_isNarrower_42 : decode cX5_isNarrower 42 = .ok (.if_icmp .eq 5, 3) := by decide +kernel
theorem dX5_isNarrower_45 : decode cX5_isNarrower 45 = .ok (.iconst 0, 1) := by decide +kernel
theorem dX5_isNarrower_46 : decode cX5_isNarrower 46 = .ok (.ireturn, 1) := by decide +kernel
theorem dX5_isNarrower_47 : decode cX5_isNarrower 47 = .ok (.iload 6, 2) := by decide +kernel
theorem dX5_isNarrower_49 : decode cX5_isNarrower 49 = .ok (.ifCond .lt 9, 3) := by decide +kernel
theorem dX5_isNarrower_52 : decode cX5_isNarrower 52 = .ok (.iload_n 3, 1) := by decide +kernel
theorem dX5_isNarrower_53 : decode cX5_isNarrower 53 = .ok (.iconst 1, 1) := by decide +kernel
theorem dX5_isNarrower_54 : decode cX5_isNarrower 54 = .ok (.iadd, 1) := by decide +kernel
theorem dX5_isNarrower_55 : decode cX5_isNarrower 55 = .ok (.goto 4, 3) := by decide +kernel
theorem dX5_isNarrower_58 : decode cX5_isNarrower 58 = .ok (.iload_n 3, 1) := by decide +kernel
theorem dX5_isNarrower_59 : decode cX5_isNarrower 59 = .ok (.istore_n 3, 1) := by decide +kernel
theorem dX5_isNarrower_60 : decode cX5_isNarrower 60 = .ok (.iload 7, 2) := by decide +kernel
theorem dX5_isNarrower_62 : decode cX5_isNarrower 62 = .ok (.ifCond .lt 10, 3) := by decide +kernel
theorem dX5_isNarrower_65 : decode cX5_isNarrower 65 = .ok (.iload 4, 2) := by decide +kernel
theorem dX5_isNarrower_67 : decode cX5_isNarrower 67 = .ok (.iconst 1, 1) := by decide +kernel
theorem dX5_isNarrower_68 : decode cX5_isNarrower 68 = .ok (.iadd, 1) := by decide +kernel
theorem dX5_isNarrower_69 : decode cX5_isNarrower 69 = .ok (.goto 5, 3) := by decide +kernel
theorem dX5_isNarrower_72 : decode cX5_isNarrower 72 = .ok (.iload 4, 2) := by decide +kernel
theorem dX5_isNarrower_74 : decode cX5_isNarrower 74 = .ok (.istore 4, 2) := by decide +kernel
theorem dX5_isNarrower_76 : decode cX5_isNarrower 76 = .ok (.iinc 5 1, 3) := by decide +kernel
theorem dX5_isNarrower_79 : decode cX5_isNarrower 79 = .ok (.goto (-71), 3) := by decide +kernel
theorem dX5_isNarrower_82 : decode cX5_isNarrower 82 = .ok (.iload_n 3, 1) := by decide +kernel
theorem dX5_isNarrower_83 : decode cX5_isNarrower 83 = .ok (.iload 4, 2) := by decide +kernel
theorem dX5_isNarrower_85 : decode cX5_isNarrower 85 = .ok (.if_icmp .gt 24, 3) := by decide +kernel
theorem dX5_isNarrower_88 : decode cX5_isNarrower 88 = .ok (.iload_n 3, 1) := by decide +kernel
theorem dX5_isNarrower_89 : decode cX5_isNarrower 89 = .ok (.iload 4, 2) := by decide +kernel
theorem dX5_isNarrower_91 : decode cX5_isNarrower 91 = .ok (.if_icmp .ne 22, 3) := by decide +kernel
theorem dX5_isNarrower_94 : decode cX5_isNarrower 94 = .ok (.aload_n 0, 1) := by decide +kernel
theorem dX5_isNarrower_95 : decode cX5_isNarrower 95 = .ok (.getfield 17, 3) := by decide +kernel
theorem dX5_isNarrower_98 : decode cX5_isNarrower 98 = .ok (.iload_n 1, 1) := by decide +kernel
theorem dX5_isNarrower_99 : decode cX5_isNarrower 99 = .ok (.iaload, 1) := by decide +kernel
theorem dX5_isNarrower_100 : decode cX5_isNarrower 100 = .ok (.aload_n 0, 1) := by decide +kernel
theorem dX5_isNarrower_101 : decode cX5_isNarrower 101 = .ok (.getfield 17, 3) := by decide +kernel
theorem dX5_isNarrower_104 : decode cX5_isNarrower 104 = .ok (.iload_n 2, 1) := by decide +kernel
theorem dX5_isNarrower_105 : decode cX5_isNarrower 105 = .ok (.iaload, 1) := by decide +kernel
theorem dX5_isNarrower_106 : decode cX5_isNarrower 106 = .ok (.if_icmp .le 7, 3) := by decide +kernel
theorem dX5_isNarrower_109 : decode cX5_isNarrower 109 = .ok (.iconst 1, 1) := by decide +kernel
theorem dX5_isNarrower_110 : decode cX5_isNarrower 110 = .ok (.goto 4, 3) := by decide +kernel
theorem dX5_isNarrower_113 : decode cX5_isNarrower 113 = .ok (.iconst 0, 1) := by decide +kernel
theorem dX5_isNarrower_114 : decode cX5_isNarrower 114 = .ok (.ireturn, 1) := by decide +kernel
theorem dX5_clash_0 : decode cX5_clash 0 = .ok (.iconst 0, 1) := by decide +kernel
theorem dX5_clash_1 : decode cX5_clash 1 = .ok (.istore_n 3, 1) := by decide +kernel
theorem dX5_clash_2 : decode cX5_clash 2 = .ok (.iload_n 3, 1) := by decide +kernel
theorem dX5_clash_3 : decode cX5_clash 3 = .ok (.bipush 24, 2) := by decide +kernel
theorem dX5_clash_5 : decode cX5_clash 5 = .ok (.if_icmp .ge 44, 3) := by decide +kernel
theorem dX5_clash_8 : decode cX5_clash 8 = .ok (.aload_n 0, 1) := by decide +kernel
theorem dX5_clash_9 : decode cX5_clash 9 = .ok (.iload_n 1, 1) := by decide +kernel
theorem dX5_clash_10 : decode cX5_clash 10 = .ok (.iload_n 3, 1) := by decide +kernel
theorem dX5_clash_11 : decode cX5_clash 11 = .ok (.invokevirtual 131, 3) := by decide +kernel
theorem dX5_clash_14 : decode cX5_clash 14 = .ok (.istore 4, 2) := by decide +kernel
theorem dX5_clash_16 : decode cX5_clash 16 = .ok (.aload_n 0, 1) := by decide +kernel
theorem dX5_clash_17 : decode cX5_clash 17 = .ok (.iload_n 2, 1) := by decide +kernel
theorem dX5_clash_18 : decode cX5_clash 18 = .ok (.iload_n 3, 1) := by decide +kernel
theorem dX5_clash_19 : decode cX5_clash 19 = .ok (.invokevirtual 131, 3) := by decide +kernel
theorem dX5_clash_22 : decode cX5_clash 22 = .ok (.istore 5, 2) := by decide +kernel
theorem dX5_clash_24 : decode cX5_clash 24 = .ok (.iload 4, 2) := by decide +kernel
theorem dX5_clash_26 : decode cX5_clash 26 = .ok (.ifCond .lt 17, 3) := by decide +kernel
theorem dX5_clash_29 : decode cX5_clash 29 = .ok (.iload 5, 2) := by decide +kernel
theorem dX5_clash_31 : decode cX5_clash 31 = .ok (.ifCond .lt 12, 3) := by decide +kernel
theorem dX5_clash_34 : decode cX5_clash 34 = .ok (.iload 4, 2) := by decide +kernel
theorem dX5_clash_36 : decode cX5_clash 36 = .ok (.iload 5, 2) := by decide +kernel
theorem dX5_clash_38 : decode cX5_clash 38 = .ok (.if_icmp .eq 5, 3) := by decide +kernel
theorem dX5_clash_41 : decode cX5_clash 41 = .ok (.iconst 0, 1) := by decide +kernel
theorem dX5_clash_42 : decode cX5_clash 42 = .ok (.ireturn, 1) := by decide +kernel
theorem dX5_clash_43 : decode cX5_clash 43 = .ok (.iinc 3 1, 3) := by decide +kernel
theorem dX5_clash_46 : decode cX5_clash 46 = .ok (.goto (-44), 3) := by decide +kernel
theorem dX5_clash_49 : decode cX5_clash 49 = .ok (.aload_n 0, 1) := by decide +kernel
theorem dX5_clash_50 : decode cX5_clash 50 = .ok (.iload_n 1, 1) := by decide +kernel
theorem dX5_clash_51 : decode cX5_clash 51 = .ok (.iload_n 2, 1) := by decide +kernel
theorem dX5_clash_52 : decode cX5_clash 52 = .ok (.invokevirtual 134, 3) := by decide +kernel
theorem dX5_clash_55 : decode cX5_clash 55 = .ok (.ifCond .ne 16, 3) := by decide +kernel
theorem dX5_clash_58 : decode cX5_clash 58 = .ok (.aload_n 0, 1) := by decide +kernel
theorem dX5_clash_59 : decode cX5_clash 59 = .ok (.iload_n 2, 1) := by decide +kernel
theorem dX5_clash_60 : decode cX5_clash 60 = .ok (.iload_n 1, 1) := by decide +kernel
theorem dX5_clash_61 : decode cX5_clash 61 = .ok (.invokevirtual 134, 3) := by decide +kernel
theorem dX5_clash_64 : decode cX5_clash 64 = .ok (.ifCond .ne 7, 3) := by decide +kernel
theorem dX5_clash_67 : decode cX5_clash 67 = .ok (.iconst 1, 1) := by decide +kernel
theorem dX5_clash_68 : decode cX5_clash 68 = .ok (.goto 4, 3) := by decide +kernel
theorem dX5_clash_71 : decode cX5_clash 71 = .ok (.iconst 0, 1) := by decide +kernel
theorem dX5_clash_72 : decode cX5_clash 72 = .ok (.ireturn, 1) := by decide +kernel
theorem dX5_test_0 : decode cX5_test 0 = .ok (.aload_n 0, 1) := by decide +kernel
theorem dX5_test_1 : decode cX5_test 1 = .ok (.iconst 0, 1) := by decide +kernel
theorem dX5_test_2 : decode cX5_test 2 = .ok (.putfield 82, 3) := by decide +kernel
theorem dX5_test_5 : decode cX5_test 5 = .ok (.aload_n 0, 1) := by decide +kernel
theorem dX5_test_6 : decode cX5_test 6 = .ok (.iconst 0, 1) := by decide +kernel
theorem dX5_test_7 : decode cX5_test 7 = .ok (.putfield 124, 3) := by decide +kernel
theorem dX5_test_10 : decode cX5_test 10 = .ok (.iconst 0, 1) := by decide +kernel
theorem dX5_test_11 : decode cX5_test 11 = .ok (.istore_n 1, 1) := by decide +kernel
theorem dX5_test_12 : decode cX5_test 12 = .ok (.iload_n 1, 1) := by decide +kernel
theorem dX5_test_13 : decode cX5_test 13 = .ok (.aload_n 0, 1) := by decide +kernel
theorem dX5_test_14 : decode cX5_test 14 = .ok (.getfield 107, 3) := by decide +kernel
theorem dX5_test_17 : decode cX5_test 17 = .ok (.if_icmp .ge 45, 3) := by decide +kernel
theorem dX5_test_20 : decode cX5_test 20 = .ok (.iload_n 1, 1) := by decide +kernel
theorem dX5_test_21 : decode cX5_test 21 = .ok (.iconst 1, 1) := by decide +kernel
theorem dX5_test_22 : decode cX5_test 22 = .ok (.iadd, 1) := by decide +kernel
theorem dX5_test_23 : decode cX5_test 23 = .ok (.istore_n 2, 1) := by decide +kernel
theorem dX5_test_24 : decode cX5_test 24 = .ok (.iload_n 2, 1) := by decide +kernel
theorem dX5_test_25 : decode cX5_test 25 = .ok (.aload_n 0, 1) := by decide +kernel
theorem dX5_test_26 : decode cX5_test 26 = .ok (.getfield 107, 3) := by decide +kernel
theorem dX5_test_29 : decode cX5_test 29 = .ok (.if_icmp .ge 27, 3) := by decide +kernel
theorem dX5_test_32 : decode cX5_test 32 = .ok (.aload_n 0, 1) := by decide +kernel
theorem dX5_test_33 : decode cX5_test 33 = .ok (.iload_n 1, 1) := by decide +kernel
theorem dX5_test_34 : decode cX5_test 34 = .ok (.iload_n 2, 1) := by decide +kernel
theorem dX5_test_35 : decode cX5_test 35 = .ok (.invokevirtual 138, 3) := by decide +kernel
theorem dX5_test_38 : decode cX5_test 38 = .ok (.ifCond .eq 12, 3) := by decide +kernel
theorem dX5_test_41 : decode cX5_test 41 = .ok (.iconst 1, 1) := by decide +kernel
theorem dX5_test_42 : decode cX5_test 42 = .ok (.bipush 16, 2) := by decide +kernel
theorem dX5_test_44 : decode cX5_test 44 = .ok (.iload_n 1, 1) := by decide +kernel
theorem dX5_test_45 : decode cX5_test 45 = .ok (.imul, 1) := by decide +kernel
theorem dX5_test_46 : decode cX5_test 46 = .ok (.iadd, 1) := by decide +kernel
theorem dX5_test_47 : decode cX5_test 47 = .ok (.iload_n 2, 1) := by decide +kernel
theorem dX5_test_48 : decode cX5_test 48 = .ok (.iadd, 1) := by decide +kernel
theorem dX5_test_49 : decode cX5_test 49 = .ok (.ireturn, 1) := by decide +kernel
theorem dX5_test_50 : decode cX5_test 50 = .ok (.iinc 2 1, 3) := by decide +kernel
theorem dX5_test_53 : decode cX5_test 53 = .ok (.goto (-29), 3) := by decide +kernel
theorem dX5_test_56 : decode cX5_test 56 = .ok (.iinc 1 1, 3) := by decide +kernel
theorem dX5_test_59 : decode cX5_test 59 = .ok (.goto (-47), 3) := by decide +kernel
theorem dX5_test_62 : decode cX5_test 62 = .ok (.aload_n 0, 1) := by decide +kernel
theorem dX5_test_63 : decode cX5_test 63 = .ok (.iconst 1, 1) := by decide +kernel
theorem dX5_test_64 : decode cX5_test 64 = .ok (.putfield 124, 3) := by decide +kernel
theorem dX5_test_67 : decode cX5_test 67 = .ok (.iconst 0, 1) := by decide +kernel
theorem dX5_test_68 : decode cX5_test 68 = .ok (.ireturn, 1) := by decide +kernel
theorem dX5_poke_0 : decode cX5_poke 0 = .ok (.aload_n 0, 1) := by decide +kernel
theorem dX5_poke_1 : decode cX5_poke 1 = .ok (.iload_n 1, 1) := by decide +kernel
theorem dX5_poke_2 : decode cX5_poke 2 = .ok (.iconst 0, 1) := by decide +kernel
theorem dX5_poke_3 : decode cX5_poke 3 = .ok (.bipush 63, 2) := by decide +kernel
theorem dX5_poke_5 : decode cX5_poke 5 = .ok (.invokestatic 127, 3) := by decide +kernel
theorem dX5_poke_8 : decode cX5_poke 8 = .ok (.ifCond .eq 7, 3) := by decide +kernel
theorem dX5_poke_11 : decode cX5_poke 11 = .ok (.iconst 1, 1) := by decide +kernel
theorem dX5_poke_12 : decode cX5_poke 12 = .ok (.goto 4, 3) := by decide +kernel
theorem dX5_poke_15 : decode cX5_poke 15 = .ok (.iconst 0, 1) := by decide +kernel
theorem dX5_poke_16 : decode cX5_poke 16 = .ok (.putfield 82, 3) := by decide +kernel
theorem dX5_poke_19 : decode cX5_poke 19 = .ok (.aload_n 0, 1) := by decide +kernel
theorem dX5_poke_20 : decode cX5_poke 20 = .ok (.getfield 82, 3) := by decide +kernel
theorem dX5_poke_23 : decode cX5_poke 23 = .ok (.ifCond .eq 5, 3) := by decide +kernel
theorem dX5_poke_26 : decode cX5_poke 26 = .ok (.iconst 0, 1) := by decide +kernel
theorem dX5_poke_27 : decode cX5_poke 27 = .ok (.ireturn, 1) := by decide +kernel
theorem dX5_poke_28 : decode cX5_poke 28 = .ok (.aload_n 0, 1) := by decide +kernel
theorem dX5_poke_29 : decode cX5_poke 29 = .ok (.getfield 44, 3) := by decide +kernel
theorem dX5_poke_32 : decode cX5_poke 32 = .ok (.iload_n 1, 1) := by decide +kernel
theorem dX5_poke_33 : decode cX5_poke 33 = .ok (.iaload, 1) := by decide +kernel
theorem dX5_poke_34 : decode cX5_poke 34 = .ok (.istore_n 3, 1) := by decide +kernel
theorem dX5_poke_35 : decode cX5_poke 35 = .ok (.aload_n 0, 1) := by decide +kernel
theorem dX5_poke_36 : decode cX5_poke 36 = .ok (.getfield 44, 3) := by decide +kernel
theorem dX5_poke_39 : decode cX5_poke 39 = .ok (.iload_n 1, 1) := by decide +kernel
theorem dX5_poke_40 : decode cX5_poke 40 = .ok (.iload_n 2, 1) := by decide +kernel
theorem dX5_poke_41 : decode cX5_poke 41 = .ok (.sipush 255, 3) := by decide +kernel
theorem dX5_poke_44 : decode cX5_poke 44 = .ok (.iand, 1) := by decide +kernel
theorem dX5_poke_45 : decode cX5_poke 45 = .ok (.iastore, 1) := by decide +kernel
theorem dX5_poke_46 : decode cX5_poke 46 = .ok (.iload_n 3, 1) := by decide +kernel
theorem dX5_poke_47 : decode cX5_poke 47 = .ok (.ireturn, 1) := by decide +kernel
theorem dX5_peek_0 : decode cX5_peek 0 = .ok (.aload_n 0, 1) := by decide +kernel
theorem dX5_peek_1 : decode cX5_peek 1 = .ok (.iload_n 1, 1) := by decide +kernel
theorem dX5_peek_2 : decode cX5_peek 2 = .ok (.iconst 0, 1) := by decide +kernel
theorem dX5_peek_3 : decode cX5_peek 3 = .ok (.bipush 63, 2) := by decide +kernel
theorem dX5_peek_5 : decode cX5_peek 5 = .ok (.invokestatic 127, 3) := by decide +kernel
theorem dX5_peek_8 : decode cX5_peek 8 = .ok (.ifCond .eq 7, 3) := by decide +kernel
theorem dX5_peek_11 : decode cX5_peek 11 = .ok (.iconst 1, 1) := by decide +kernel
theorem dX5_peek_12 : decode cX5_peek 12 = .ok (.goto 4, 3) := by decide +kernel
theorem dX5_peek_15 : decode cX5_peek 15 = .ok (.iconst 0, 1) := by decide +kernel
theorem dX5_peek_16 : decode cX5_peek 16 = .ok (.putfield 82, 3) := by decide +kernel
theorem dX5_peek_19 : decode cX5_peek 19 = .ok (.aload_n 0, 1) := by decide +kernel
theorem dX5_peek_20 : decode cX5_peek 20 = .ok (.getfield 82, 3) := by decide +kernel
theorem dX5_peek_23 : decode cX5_peek 23 = .ok (.ifCond .ne 12, 3) := by decide +kernel
theorem dX5_peek_26 : decode cX5_peek 26 = .ok (.aload_n 0, 1) := by decide +kernel
theorem dX5_peek_27 : decode cX5_peek 27 = .ok (.getfield 44, 3) := by decide +kernel
theorem dX5_peek_30 : decode cX5_peek 30 = .ok (.iload_n 1, 1) := by decide +kernel
theorem dX5_peek_31 : decode cX5_peek 31 = .ok (.iaload, 1) := by decide +kernel
theorem dX5_peek_32 : decode cX5_peek 32 = .ok (.goto 4, 3) := by decide +kernel
theorem dX5_peek_35 : decode cX5_peek 35 = .ok (.iconst 0, 1) := by decide +kernel
theorem dX5_peek_36 : decode cX5_peek 36 = .ok (.ireturn, 1) := by decide +kernel
theorem dX5_bitAt_0 : decode cX5_bitAt 0 = .ok (.aload_n 0, 1) := by decide +kernel
theorem dX5_bitAt_1 : decode cX5_bitAt 1 = .ok (.getfield 44, 3) := by decide +kernel
theorem dX5_bitAt_4 : decode cX5_bitAt 4 = .ok (.iload_n 1, 1) := by decide +kernel
theorem dX5_bitAt_5 : decode cX5_bitAt 5 = .ok (.iload_n 2, 1) := by decide +kernel
theorem dX5_bitAt_6 : decode cX5_bitAt 6 = .ok (.bipush 8, 2) := by decide +kernel
theorem dX5_bitAt_8 : decode cX5_bitAt 8 = .ok (.idiv, 1) := by decide +kernel
theorem dX5_bitAt_9 : decode cX5_bitAt 9 = .ok (.iadd, 1) := by decide +kernel
theorem dX5_bitAt_10 : decode cX5_bitAt 10 = .ok (.iaload, 1) := by decide +kernel
theorem dX5_bitAt_11 : decode cX5_bitAt 11 = .ok (.bipush 7, 2) := by decide +kernel
theorem dX5_bitAt_13 : decode cX5_bitAt 13 = .ok (.iload_n 2, 1) := by decide +kernel
theorem dX5_bitAt_14 : decode cX5_bitAt 14 = .ok (.bipush 8, 2) := by decide +kernel
theorem dX5_bitAt_16 : decode cX5_bitAt 16 = .ok (.irem, 1) := by decide +kernel
theorem dX5_bitAt_17 : decode cX5_bitAt 17 = .ok (.isub, 1) := by decide +kernel
theorem dX5_bitAt_18 : decode cX5_bitAt 18 = .ok (.ishr, 1) := by decide +kernel
theorem dX5_bitAt_19 : decode cX5_bitAt 19 = .ok (.iconst 1, 1) := by decide +kernel
theorem dX5_bitAt_20 : decode cX5_bitAt 20 = .ok (.iand, 1) := by decide +kernel
theorem dX5_bitAt_21 : decode cX5_bitAt 21 = .ok (.ireturn, 1) := by decide +kernel
theorem dX5_matches_0 : decode cX5_matches 0 = .ok (.iload_n 2, 1) := by decide +kernel
theorem dX5_matches_1 : decode cX5_matches 1 = .ok (.aload_n 0, 1) := by decide +kernel
theorem dX5_matches_2 : decode cX5_matches 2 = .ok (.getfield 17, 3) := by decide +kernel
theorem dX5_matches_5 : decode cX5_matches 5 = .ok (.iload_n 1, 1) := by decide +kernel
theorem dX5_matches_6 : decode cX5_matches 6 = .ok (.iaload, 1) := by decide +kernel
theorem dX5_matches_7 : decode cX5_matches 7 = .ok (.bipush 8, 2) := by decide +kernel
theorem dX5_matches_9 : decode cX5_matches 9 = .ok (.idiv, 1) := by decide +kernel
theorem dX5_matches_10 : decode cX5_matches 10 = .ok (.iadd, 1) := by decide +kernel
theorem dX5_matches_11 : decode cX5_matches 11 = .ok (.bipush 64, 2) := by decide +kernel
theorem dX5_matches_13 : decode cX5_matches 13 = .ok (.if_icmp .le 5, 3) := by decide +kernel
theorem dX5_matches_16 : decode cX5_matches 16 = .ok (.iconst 0, 1) := by decide +kernel
theorem dX5_matches_17 : decode cX5_matches 17 = .ok (.ireturn, 1) := by decide +kernel
theorem dX5_matches_18 : decode cX5_matches 18 = .ok (.iconst 0, 1) := by decide +kernel
theorem dX5_matches_19 : decode cX5_matches 19 = .ok (.istore_n 3, 1) := by decide +kernel
theorem dX5_matches_20 : decode cX5_matches 20 = .ok (.iload_n 3, 1) := by decide +kernel
theorem dX5_matches_21 : decode cX5_matches 21 = .ok (.aload_n 0, 1) := by decide +kernel
theorem dX5_matches_22 : decode cX5_matches 22 = .ok (.getfield 17, 3) := by decide +kernel
theorem dX5_matches_25 : decode cX5_matches 25 = .ok (.iload_n 1, 1) := by decide +kernel
theorem dX5_matches_26 : decode cX5_matches 26 = .ok (.iaload, 1) := by decide +kernel
theorem dX5_matches_27 : decode cX5_matches 27 = .ok (.if_icmp .ge 35, 3) := by decide +kernel
theorem dX5_matches_30 : decode cX5_matches 30 = .ok (.aload_n 0, 1) := by decide +kernel
theorem dX5_matches_31 : decode cX5_matches 31 = .ok (.iload_n 1, 1) := by decide +kernel
theorem dX5_matches_32 : decode cX5_matches 32 = .ok (.iload_n 3, 1) := by decide +kernel
theorem dX5_matches_33 : decode cX5_matches 33 = .ok (.invokevirtual 131, 3) := by decide +kernel
theorem dX5_matches_36 : decode cX5_matches 36 = .ok (.ifCond .lt 20, 3) := by decide +kernel
theorem dX5_matches_39 : decode cX5_matches 39 = .ok (.aload_n 0, 1) := by decide +kernel
theorem dX5_matches_40 : decode cX5_matches 40 = .ok (.iload_n 1, 1) := by decide +kernel
theorem dX5_matches_41 : decode cX5_matches 41 = .ok (.iload_n 3, 1) := by decide +kernel
theorem dX5_matches_42 : decode cX5_matches 42 = .ok (.invokevirtual 131, 3) := by decide +kernel
theorem dX5_matches_45 : decode cX5_matches 45 = .ok (.aload_n 0, 1) := by decide +kernel
theorem dX5_matches_46 : decode cX5_matches 46 = .ok (.iload_n 2, 1) := by decide +kernel
theorem dX5_matches_47 : decode cX5_matches 47 = .ok (.iload_n 3, 1) := by decide +kernel
theorem dX5_matches_48 : decode cX5_matches 48 = .ok (.invokevirtual 141, 3) := by decide +kernel
theorem dX5_matches_51 : decode cX5_matches 51 = .ok (.if_icmp .eq 5, 3) := by decide +kernel
theorem dX5_matches_54 : decode cX5_matches 54 = .ok (.iconst 0, 1) := by decide +kernel
theorem dX5_matches_55 : decode cX5_matches 55 = .ok (.ireturn, 1) := by decide +kernel
theorem dX5_matches_56 : decode cX5_matches 56 = .ok (.iinc 3 1, 3) := by decide +kernel
theorem dX5_matches_59 : decode cX5_matches 59 = .ok (.goto (-39), 3) := by decide +kernel
theorem dX5_matches_62 : decode cX5_matches 62 = .ok (.iconst 1, 1) := by decide +kernel
theorem dX5_matches_63 : decode cX5_matches 63 = .ok (.ireturn, 1) := by decide +kernel
theorem dX5_decoded_0 : decode cX5_decoded 0 = .ok (.iconst (-1), 1) := by decide +kernel
theorem dX5_decoded_1 : decode cX5_decoded 1 = .ok (.istore_n 2, 1) := by decide +kernel
theorem dX5_decoded_2 : decode cX5_decoded 2 = .ok (.iconst 0, 1) := by decide +kernel
theorem dX5_decoded_3 : decode cX5_decoded 3 = .ok (.istore_n 3, 1) := by decide +kernel
theorem dX5_decoded_4 : decode cX5_decoded 4 = .ok (.iload_n 3, 1) := by decide +kernel
theorem dX5_decoded_5 : decode cX5_decoded 5 = .ok (.aload_n 0, 1) := by decide +kernel
theorem dX5_decoded_6 : decode cX5_decoded 6 = .ok (.getfield 107, 3) := by decide +kernel
theorem dX5_decoded_9 : decode cX5_decoded 9 = .ok (.if_icmp .ge 33, 3) := by decide +kernel
theorem dX5_decoded_12 : decode cX5_decoded 12 = .ok (.aload_n 0, 1) := by decide +kernel
theorem dX5_decoded_13 : decode cX5_decoded 13 = .ok (.iload_n 3, 1) := by decide +kernel
theorem dX5_decoded_14 : decode cX5_decoded 14 = .ok (.iload_n 1, 1) := by decide +kernel
theorem dX5_decoded_15 : decode cX5_decoded 15 = .ok (.invokevirtual 144, 3) := by decide +kernel
theorem dX5_decoded_18 : decode cX5_decoded 18 = .ok (.ifCond .eq 18, 3) := by decide +kernel
theorem dX5_decoded_21 : decode cX5_decoded 21 = .ok (.iload_n 2, 1) := by decide +kernel
theorem dX5_decoded_22 : decode cX5_decoded 22 = .ok (.ifCond .lt 12, 3) := by decide +kernel
theorem dX5_decoded_25 : decode cX5_decoded 25 = .ok (.aload_n 0, 1) := by decide +kernel
theorem dX5_decoded_26 : decode cX5_decoded 26 = .ok (.iload_n 3, 1) := by decide +kernel
theorem dX5_decoded_27 : decode cX5_decoded 27 = .ok (.iload_n 2, 1) := by decide +kernel
theorem dX5_decoded_28 : decode cX5_decoded 28 = .ok (.invokevirtual 134, 3) := by decide +kernel
theorem dX5_decoded_31 : decode cX5_decoded 31 = .ok (.ifCond .eq 5, 3) := by decide +kernel
theorem dX5_decoded_34 : decode cX5_decoded 34 = .ok (.iload_n 3, 1) := by decide +kernel
theorem dX5_decoded_35 : decode cX5_decoded 35 = .ok (.istore_n 2, 1) := by decide +kernel
theorem dX5_decoded_36 : decode cX5_decoded 36 = .ok (.iinc 3 1, 3) := by decide +kernel
theorem dX5_decoded_39 : decode cX5_decoded 39 = .ok (.goto (-35), 3) := by decide +kernel
theorem dX5_decoded_42 : decode cX5_decoded 42 = .ok (.iload_n 2, 1) := by decide +kernel
theorem dX5_decoded_43 : decode cX5_decoded 43 = .ok (.ireturn, 1) := by decide +kernel
theorem dX5_wrongAddress_0 : decode cX5_wrongAddress 0 = .ok (.aload_n 0, 1) := by decide +kernel
theorem dX5_wrongAddress_1 : decode cX5_wrongAddress 1 = .ok (.getfield 124, 3) := by decide +kernel
theorem dX5_wrongAddress_4 : decode cX5_wrongAddress 4 = .ok (.ifCond .ne 7, 3) := by decide +kernel
theorem dX5_wrongAddress_7 : decode cX5_wrongAddress 7 = .ok (.iconst 1, 1) := by decide +kernel
theorem dX5_wrongAddress_8 : decode cX5_wrongAddress 8 = .ok (.goto 18, 3) := by decide +kernel
theorem dX5_wrongAddress_11 : decode cX5_wrongAddress 11 = .ok (.iload_n 1, 1) := by decide +kernel
theorem dX5_wrongAddress_12 : decode cX5_wrongAddress 12 = .ok (.iconst 0, 1) := by decide +kernel
theorem dX5_wrongAddress_13 : decode cX5_wrongAddress 13 = .ok (.bipush 63, 2) := by decide +kernel
theorem dX5_wrongAddress_15 : decode cX5_wrongAddress 15 = .ok (.invokestatic 127, 3) := by decide +kernel
theorem dX5_wrongAddress_18 : decode cX5_wrongAddress 18 = .ok (.ifCond .eq 7, 3) := by decide +kernel
theorem dX5_wrongAddress_21 : decode cX5_wrongAddress 21 = .ok (.iconst 2, 1) := by decide +kernel
theorem dX5_wrongAddress_22 : decode cX5_wrongAddress 22 = .ok (.goto 4, 3) := by decide +kernel
theorem dX5_wrongAddress_25 : decode cX5_wrongAddress 25 = .ok (.iconst 0, 1) := by decide +kernel
theorem dX5_wrongAddress_26 : decode cX5_wrongAddress 26 = .ok (.ireturn, 1) := by decide +kernel
theorem dX5_decode_0 : decode cX5_decode 0 = .ok (.aload_n 0, 1) := by decide +kernel
theorem dX5_decode_1 : decode cX5_decode 1 = .ok (.aload_n 0, 1) := by decide +kernel
theorem dX5_decode_2 : decode cX5_decode 2 = .ok (.iload_n 1, 1) := by decide +kernel
theorem dX5_decode_3 : decode cX5_decode 3 = .ok (.invokevirtual 147, 3) := by decide +kernel
theorem dX5_decode_6 : decode cX5_decode 6 = .ok (.putfield 82, 3) := by decide +kernel
theorem dX5_decode_9 : decode cX5_decode 9 = .ok (.aload_n 0, 1) := by decide +kernel
theorem dX5_decode_10 : decode cX5_decode 10 = .ok (.getfield 82, 3) := by decide +kernel
theorem dX5_decode_13 : decode cX5_decode 13 = .ok (.ifCond .ne 11, 3) := by decide +kernel
theorem dX5_decode_16 : decode cX5_decode 16 = .ok (.aload_n 0, 1) := by decide +kernel
theorem dX5_decode_17 : decode cX5_decode 17 = .ok (.iload_n 1, 1) := by decide +kernel
theorem dX5_decode_18 : decode cX5_decode 18 = .ok (.invokevirtual 150, 3) := by decide +kernel
theorem dX5_decode_21 : decode cX5_decode 21 = .ok (.goto 4, 3) := by decide +kernel
theorem dX5_decode_24 : decode cX5_decode 24 = .ok (.iconst 0, 1) := by decide +kernel
theorem dX5_decode_25 : decode cX5_decode 25 = .ok (.ireturn, 1) := by decide +kernel
theorem dX5_valueOf_0 : decode cX5_valueOf 0 = .ok (.iconst 0, 1) := by decide +kernel
theorem dX5_valueOf_1 : decode cX5_valueOf 1 = .ok (.istore 4, 2) := by decide +kernel
theorem dX5_valueOf_3 : decode cX5_valueOf 3 = .ok (.iconst (-1), 1) := by decide +kernel
theorem dX5_valueOf_4 : decode cX5_valueOf 4 = .ok (.istore 5, 2) := by decide +kernel
theorem dX5_valueOf_6 : decode cX5_valueOf 6 = .ok (.iconst 0, 1) := by decide +kernel
theorem dX5_valueOf_7 : decode cX5_valueOf 7 = .ok (.istore 6, 2) := by decide +kernel
theorem dX5_valueOf_9 : decode cX5_valueOf 9 = .ok (.iload 6, 2) := by decide +kernel
theorem dX5_valueOf_11 : decode cX5_valueOf 11 = .ok (.aload_n 0, 1) := by decide +kernel
theorem dX5_valueOf_12 : decode cX5_valueOf 12 = .ok (.getfield 17, 3) := by decide +kernel
theorem dX5_valueOf_15 : decode cX5_valueOf 15 = .ok (.iload_n 1, 1) := by decide +kernel
theorem dX5_valueOf_16 : decode cX5_valueOf 16 = .ok (.iaload, 1) := by decide +kernel
theorem dX5_valueOf_17 : decode cX5_valueOf 17 = .ok (.if_icmp .ge 59, 3) := by decide +kernel
theorem dX5_valueOf_20 : decode cX5_valueOf 20 = .ok (.aload_n 0, 1) := by decide +kernel
theorem dX5_valueOf_21 : decode cX5_valueOf 21 = .ok (.getfield 20, 3) := by decide +kernel
theorem dX5_valueOf_24 : decode cX5_valueOf 24 = .ok (.bipush 24, 2) := by decide +kernel
theorem dX5_valueOf_26 : decode cX5_valueOf 26 = .ok (.iload_n 1, 1) := by decide +kernel
theorem dX5_valueOf_27 : decode cX5_valueOf 27 = .ok (.imul, 1) := by decide +kernel
theorem dX5_valueOf_28 : decode cX5_valueOf 28 = .ok (.iload 6, 2) := by decide +kernel
theorem dX5_valueOf_30 : decode cX5_valueOf 30 = .ok (.iadd, 1) := by decide +kernel
theorem dX5_valueOf_31 : decode cX5_valueOf 31 = .ok (.iaload, 1) := by decide +kernel
theorem dX5_valueOf_32 : decode cX5_valueOf 32 = .ok (.iconst 2, 1) := by decide +kernel
theorem dX5_valueOf_33 : decode cX5_valueOf 33 = .ok (.iload_n 3, 1) := by decide +kernel
theorem dX5_valueOf_34 : decode cX5_valueOf 34 = .ok (.iadd, 1) := by decide +kernel
theorem dX5_valueOf_35 : decode cX5_valueOf 35 = .ok (.if_icmp .ne 35, 3) := by decide +kernel
theorem dX5_valueOf_38 : decode cX5_valueOf 38 = .ok (.aload_n 0, 1) := by decide +kernel
theorem dX5_valueOf_39 : decode cX5_valueOf 39 = .ok (.iload_n 2, 1) := by decide +kernel
theorem dX5_valueOf_40 : decode cX5_valueOf 40 = .ok (.iload 6, 2) := by decide +kernel
theorem dX5_valueOf_42 : decode cX5_valueOf 42 = .ok (.invokevirtual 141, 3) := by decide +kernel
theorem dX5_valueOf_45 : decode cX5_valueOf 45 = .ok (.istore 7, 2) := by decide +kernel
theorem dX5_valueOf_47 : decode cX5_valueOf 47 = .ok (.iload 5, 2) := by decide +kernel
theorem dX5_valueOf_49 : decode cX5_valueOf 49 = .ok (.ifCond .ge 8, 3) := by decide +kernel
theorem dX5_valueOf_52 : decode cX5_valueOf 52 = .ok (.iload 7, 2) := by decide +kernel
theorem dX5_valueOf_54 : decode cX5_valueOf 54 = .ok (.goto 5, 3) := by decide +kernel
theorem dX5_valueOf_57 : decode cX5_valueOf 57 = .ok (.iload 5, 2) := by decide +kernel
theorem dX5_valueOf_59 : decode cX5_valueOf 59 = .ok (.istore 5, 2) := by decide +kernel
theorem dX5_valueOf_61 : decode cX5_valueOf 61 = .ok (.iconst 2, 1) := by decide +kernel
theorem dX5_valueOf_62 : decode cX5_valueOf 62 = .ok (.iload 4, 2) := by decide +kernel
theorem dX5_valueOf_64 : decode cX5_valueOf 64 = .ok (.imul, 1) := by decide +kernel
theorem dX5_valueOf_65 : decode cX5_valueOf 65 = .ok (.iload 7, 2) := by decide +kernel
theorem dX5_valueOf_67 : decode cX5_valueOf 67 = .ok (.iadd, 1) := by decide +kernel
theorem dX5_valueOf_68 : decode cX5_valueOf 68 = .ok (.istore 4, 2) := by decide +kernel
theorem dX5_valueOf_70 : decode cX5_valueOf 70 = .ok (.iinc 6 1, 3) := by decide +kernel
theorem dX5_valueOf_73 : decode cX5_valueOf 73 = .ok (.goto (-64), 3) := by decide +kernel
theorem dX5_valueOf_76 : decode cX5_valueOf 76 = .ok (.iconst 3, 1) := by decide +kernel
theorem dX5_valueOf_77 : decode cX5_valueOf 77 = .ok (.iload_n 1, 1) := by decide +kernel
theorem dX5_valueOf_78 : decode cX5_valueOf 78 = .ok (.imul, 1) := by decide +kernel
theorem dX5_valueOf_79 : decode cX5_valueOf 79 = .ok (.iload_n 3, 1) := by decide +kernel
theorem dX5_valueOf_80 : decode cX5_valueOf 80 = .ok (.iadd, 1) := by decide +kernel
theorem dX5_valueOf_81 : decode cX5_valueOf 81 = .ok (.istore 6, 2) := by decide +kernel
theorem dX5_valueOf_83 : decode cX5_valueOf 83 = .ok (.aload_n 0, 1) := by decide +kernel
theorem dX5_valueOf_84 : decode cX5_valueOf 84 = .ok (.getfield 29, 3) := by decide +kernel
theorem dX5_valueOf_87 : decode cX5_valueOf 87 = .ok (.iload 6, 2) := by decide +kernel
theorem dX5_valueOf_89 : decode cX5_valueOf 89 = .ok (.iaload, 1) := by decide +kernel
theorem dX5_valueOf_90 : decode cX5_valueOf 90 = .ok (.ifCond .le 24, 3) := by decide +kernel
theorem dX5_valueOf_93 : decode cX5_valueOf 93 = .ok (.iload 5, 2) := by decide +kernel
theorem dX5_valueOf_95 : decode cX5_valueOf 95 = .ok (.iconst 1, 1) := by decide +kernel
theorem dX5_valueOf_96 : decode cX5_valueOf 96 = .ok (.if_icmp .ne 18, 3) := by decide +kernel
theorem dX5_valueOf_99 : decode cX5_valueOf 99 = .ok (.iload 4, 2) := by decide +kernel
theorem dX5_valueOf_101 : decode cX5_valueOf 101 = .ok (.iconst 1, 1) := by decide +kernel
theorem dX5_valueOf_102 : decode cX5_valueOf 102 = .ok (.aload_n 0, 1) := by decide +kernel
theorem dX5_valueOf_103 : decode cX5_valueOf 103 = .ok (.getfield 26, 3) := by decide +kernel
theorem dX5_valueOf_106 : decode cX5_valueOf 106 = .ok (.iload 6, 2) := by decide +kernel
theorem dX5_valueOf_108 : decode cX5_valueOf 108 = .ok (.iaload, 1) := by decide +kernel
theorem dX5_valueOf_109 : decode cX5_valueOf 109 = .ok (.ishl, 1) := by decide +kernel
theorem dX5_valueOf_110 : decode cX5_valueOf 110 = .ok (.isub, 1) := by decide +kernel
theorem dX5_valueOf_111 : decode cX5_valueOf 111 = .ok (.goto 5, 3) := by decide +kernel
theorem dX5_valueOf_114 : decode cX5_valueOf 114 = .ok (.iload 4, 2) := by decide +kernel
theorem dX5_valueOf_116 : decode cX5_valueOf 116 = .ok (.istore 4, 2) := by decide +kernel
theorem dX5_valueOf_118 : decode cX5_valueOf 118 = .ok (.iload 4, 2) := by decide +kernel
theorem dX5_valueOf_120 : decode cX5_valueOf 120 = .ok (.aload_n 0, 1) := by decide +kernel
theorem dX5_valueOf_121 : decode cX5_valueOf 121 = .ok (.getfield 32, 3) := by decide +kernel
theorem dX5_valueOf_124 : decode cX5_valueOf 124 = .ok (.iload 6, 2) := by decide +kernel
theorem dX5_valueOf_126 : decode cX5_valueOf 126 = .ok (.iaload, 1) := by decide +kernel
theorem dX5_valueOf_127 : decode cX5_valueOf 127 = .ok (.imul, 1) := by decide +kernel
theorem dX5_valueOf_128 : decode cX5_valueOf 128 = .ok (.aload_n 0, 1) := by decide +kernel
theorem dX5_valueOf_129 : decode cX5_valueOf 129 = .ok (.getfield 35, 3) := by decide +kernel
theorem dX5_valueOf_132 : decode cX5_valueOf 132 = .ok (.iload 6, 2) := by decide +kernel
theorem dX5_valueOf_134 : decode cX5_valueOf 134 = .ok (.iaload, 1) := by decide +kernel
theorem dX5_valueOf_135 : decode cX5_valueOf 135 = .ok (.iadd, 1) := by decide +kernel
theorem dX5_valueOf_136 : decode cX5_valueOf 136 = .ok (.aload_n 0, 1) := by decide +kernel
theorem dX5_valueOf_137 : decode cX5_valueOf 137 = .ok (.getfield 29, 3) := by decide +kernel
theorem dX5_valueOf_140 : decode cX5_valueOf 140 = .ok (.iload 6, 2) := by decide +kernel
theorem dX5_valueOf_142 : decode cX5_valueOf 142 = .ok (.iaload, 1) := by decide +kernel
theorem dX5_valueOf_143 : decode cX5_valueOf 143 = .ok (.iconst 2, 1) := by decide +kernel
theorem dX5_valueOf_144 : decode cX5_valueOf 144 = .ok (.if_icmp .ne 17, 3) := by decide +kernel
theorem dX5_valueOf_147 : decode cX5_valueOf 147 = .ok (.iload_n 2, 1) := by decide +kernel
theorem dX5_valueOf_148 : decode cX5_valueOf 148 = .ok (.aload_n 0, 1) := by decide +kernel
theorem dX5_valueOf_149 : decode cX5_valueOf 149 = .ok (.getfield 17, 3) := by decide +kernel
theorem dX5_valueOf_152 : decode cX5_valueOf 152 = .ok (.iload_n 1, 1) := by decide +kernel
theorem dX5_valueOf_153 : decode cX5_valueOf 153 = .ok (.iaload, 1) := by decide +kernel
theorem dX5_valueOf_154 : decode cX5_valueOf 154 = .ok (.bipush 8, 2) := by decide +kernel
theorem dX5_valueOf_156 : decode cX5_valueOf 156 = .ok (.idiv, 1) := by decide +kernel
theorem dX5_valueOf_157 : decode cX5_valueOf 157 = .ok (.iadd, 1) := by decide +kernel
theorem dX5_valueOf_158 : decode cX5_valueOf 158 = .ok (.goto 4, 3) := by decide +kernel
theorem dX5_valueOf_161 : decode cX5_valueOf 161 = .ok (.iconst 0, 1) := by decide +kernel
theorem dX5_valueOf_162 : decode cX5_valueOf 162 = .ok (.iadd, 1) := by decide +kernel
theorem dX5_valueOf_163 : decode cX5_valueOf 163 = .ok (.ireturn, 1) := by decide +kernel
theorem dX5_value_0 : decode cX5_value 0 = .ok (.aload_n 0, 1) := by decide +kernel
theorem dX5_value_1 : decode cX5_value 1 = .ok (.aload_n 0, 1) := by decide +kernel
theorem dX5_value_2 : decode cX5_value 2 = .ok (.iload_n 1, 1) := by decide +kernel
theorem dX5_value_3 : decode cX5_value 3 = .ok (.invokevirtual 147, 3) := by decide +kernel
theorem dX5_value_6 : decode cX5_value 6 = .ok (.putfield 82, 3) := by decide +kernel
theorem dX5_value_9 : decode cX5_value 9 = .ok (.aload_n 0, 1) := by decide +kernel
theorem dX5_value_10 : decode cX5_value 10 = .ok (.getfield 82, 3) := by decide +kernel
theorem dX5_value_13 : decode cX5_value 13 = .ok (.ifCond .ne 11, 3) := by decide +kernel
theorem dX5_value_16 : decode cX5_value 16 = .ok (.aload_n 0, 1) := by decide +kernel
theorem dX5_value_17 : decode cX5_value 17 = .ok (.iload_n 1, 1) := by decide +kernel
theorem dX5_value_18 : decode cX5_value 18 = .ok (.invokevirtual 150, 3) := by decide +kernel
theorem dX5_value_21 : decode cX5_value 21 = .ok (.goto 4, 3) := by decide +kernel
theorem dX5_value_24 : decode cX5_value 24 = .ok (.iconst (-1), 1) := by decide +kernel
theorem dX5_value_25 : decode cX5_value 25 = .ok (.istore_n 3, 1) := by decide +kernel
theorem dX5_value_26 : decode cX5_value 26 = .ok (.aload_n 0, 1) := by decide +kernel
theorem dX5_value_27 : decode cX5_value 27 = .ok (.aload_n 0, 1) := by decide +kernel
theorem dX5_value_28 : decode cX5_value 28 = .ok (.getfield 82, 3) := by decide +kernel
theorem dX5_value_31 : decode cX5_value 31 = .ok (.ifCond .ne 25, 3) := by decide +kernel
theorem dX5_value_34 : decode cX5_value 34 = .ok (.iload_n 3, 1) := by decide +kernel
theorem dX5_value_35 : decode cX5_value 35 = .ok (.ifCond .lt 17, 3) := by decide +kernel
theorem dX5_value_38 : decode cX5_value 38 = .ok (.iload_n 2, 1) := by decide +kernel
theorem dX5_value_39 : decode cX5_value 39 = .ok (.ifCond .lt 13, 3) := by decide +kernel
theorem dX5_value_42 : decode cX5_value 42 = .ok (.iload_n 2, 1) := by decide +kernel
theorem dX5_value_43 : decode cX5_value 43 = .ok (.aload_n 0, 1) := by decide +kernel
theorem dX5_value_44 : decode cX5_value 44 = .ok (.getfield 23, 3) := by decide +kernel
theorem dX5_value_47 : decode cX5_value 47 = .ok (.iload_n 3, 1) := by decide +kernel
theorem dX5_value_48 : decode cX5_value 48 = .ok (.iaload, 1) := by decide +kernel
theorem dX5_value_49 : decode cX5_value 49 = .ok (.if_icmp .lt 7, 3) := by decide +kernel
theorem dX5_value_52 : decode cX5_value 52 = .ok (.iconst 2, 1) := by decide +kernel
theorem dX5_value_53 : decode cX5_value 53 = .ok (.goto 7, 3) := by decide +kernel
theorem dX5_value_56 : decode cX5_value 56 = .ok (.aload_n 0, 1) := by decide +kernel
theorem dX5_value_57 : decode cX5_value 57 = .ok (.getfield 82, 3) := by decide +kernel
theorem dX5_value_60 : decode cX5_value 60 = .ok (.putfield 82, 3) := by decide +kernel
theorem dX5_value_63 : decode cX5_value 63 = .ok (.aload_n 0, 1) := by decide +kernel
theorem dX5_value_64 : decode cX5_value 64 = .ok (.getfield 82, 3) := by decide +kernel
theorem dX5_value_67 : decode cX5_value 67 = .ok (.ifCond .ne 13, 3) := by decide +kernel
theorem dX5_value_70 : decode cX5_value 70 = .ok (.aload_n 0, 1) := by decide +kernel
theorem dX5_value_71 : decode cX5_value 71 = .ok (.iload_n 3, 1) := by decide +kernel
theorem dX5_value_72 : decode cX5_value 72 = .ok (.iload_n 1, 1) := by decide +kernel
theorem dX5_value_73 : decode cX5_value 73 = .ok (.iload_n 2, 1) := by decide +kernel
theorem dX5_value_74 : decode cX5_value 74 = .ok (.invokevirtual 153, 3) := by decide +kernel
theorem dX5_value_77 : decode cX5_value 77 = .ok (.goto 4, 3) := by decide +kernel
theorem dX5_value_80 : decode cX5_value 80 = .ok (.iconst 0, 1) := by decide +kernel
theorem dX5_value_81 : decode cX5_value 81 = .ok (.ireturn, 1) := by decide +kernel
theorem dX5_add_0 : decode cX5_add 0 = .ok (.aload_n 0, 1) := by decide +kernel
theorem dX5_add_1 : decode cX5_add 1 = .ok (.getfield 79, 3) := by decide +kernel
theorem dX5_add_4 : decode cX5_add 4 = .ok (.aload_n 0, 1) := by decide +kernel
theorem dX5_add_5 : decode cX5_add 5 = .ok (.getfield 157, 3) := by decide +kernel
theorem dX5_add_8 : decode cX5_add 8 = .ok (.iload_n 1, 1) := by decide +kernel
theorem dX5_add_9 : decode cX5_add 9 = .ok (.i2c, 1) := by decide +kernel
theorem dX5_add_10 : decode cX5_add 10 = .ok (.castore, 1) := by decide +kernel
theorem dX5_add_11 : decode cX5_add 11 = .ok (.aload_n 0, 1) := by decide +kernel
theorem dX5_add_12 : decode cX5_add 12 = .ok (.dup, 1) := by decide +kernel
theorem dX5_add_13 : decode cX5_add 13 = .ok (.getfield 157, 3) := by decide +kernel
theorem dX5_add_16 : decode cX5_add 16 = .ok (.iconst 1, 1) := by decide +kernel
theorem dX5_add_17 : decode cX5_add 17 = .ok (.iadd, 1) := by decide +kernel
theorem dX5_add_18 : decode cX5_add 18 = .ok (.putfield 157, 3) := by decide +kernel
theorem dX5_add_21 : decode cX5_add 21 = .ok (.return_, 1) := by decide +kernel
theorem dX5_addNumber_0 : decode cX5_addNumber 0 = .ok (.iload_n 1, 1) := by decide +kernel
theorem dX5_addNumber_1 : decode cX5_addNumber 1 = .ok (.ifCond .ge 8, 3) := by decide +kernel
theorem dX5_addNumber_4 : decode cX5_addNumber 4 = .ok (.iload_n 1, 1) := by decide +kernel
theorem dX5_addNumber_5 : decode cX5_addNumber 5 = .ok (.ineg, 1) := by decide +kernel
theorem dX5_addNumber_6 : decode cX5_addNumber 6 = .ok (.goto 4, 3) := by decide +kernel
theorem dX5_addNumber_9 : decode cX5_addNumber 9 = .ok (.iload_n 1, 1) := by decide +kernel
theorem dX5_addNumber_10 : decode cX5_addNumber 10 = .ok (.istore_n 2, 1) := by decide +kernel
theorem dX5_addNumber_11 : decode cX5_addNumber 11 = .ok (.iconst 1, 1) := by decide +kernel
theorem dX5_addNumber_12 : decode cX5_addNumber 12 = .ok (.istore_n 3, 1) := by decide +kernel
theorem dX5_addNumber_13 : decode cX5_addNumber 13 = .ok (.iload_n 2, 1) := by decide +kernel
theorem dX5_addNumber_14 : decode cX5_addNumber 14 = .ok (.iload_n 3, 1) := by decide +kernel
theorem dX5_addNumber_15 : decode cX5_addNumber 15 = .ok (.idiv, 1) := by decide +kernel
theorem dX5_addNumber_16 : decode cX5_addNumber 16 = .ok (.bipush 9, 2) := by decide +kernel
theorem dX5_addNumber_18 : decode cX5_addNumber 18 = .ok (.if_icmp .le 11, 3) := by decide +kernel
theorem dX5_addNumber_21 : decode cX5_addNumber 21 = .ok (.iload_n 3, 1) := by decide +kernel
theorem dX5_addNumber_22 : decode cX5_addNumber 22 = .ok (.bipush 10, 2) := by decide +kernel
theorem dX5_addNumber_24 : decode cX5_addNumber 24 = .ok (.imul, 1) := by decide +kernel
theorem dX5_addNumber_25 : decode cX5_addNumber 25 = .ok (.istore_n 3, 1) := by decide +kernel
theorem dX5_addNumber_26 : decode cX5_addNumber 26 = .ok (.goto (-13), 3) := by decide +kernel
theorem dX5_addNumber_29 : decode cX5_addNumber 29 = .ok (.iload_n 1, 1) := by decide +kernel
theorem dX5_addNumber_30 : decode cX5_addNumber 30 = .ok (.ifCond .ge 9, 3) := by decide +kernel
theorem dX5_addNumber_33 : decode cX5_addNumber 33 = .ok (.aload_n 0, 1) := by decide +kernel
theorem dX5_addNumber_34 : decode cX5_addNumber 34 = .ok (.bipush 45, 2) := by decide +kernel
theorem dX5_addNumber_36 : decode cX5_addNumber 36 = .ok (.invokevirtual 160, 3) := by decide +kernel
theorem dX5_addNumber_39 : decode cX5_addNumber 39 = .ok (.iload_n 3, 1) := by decide +kernel
theorem dX5_addNumber_40 : decode cX5_addNumber 40 = .ok (.ifCond .le 24, 3) := by decide +kernel
theorem dX5_addNumber_43 : decode cX5_addNumber 43 = .ok (.aload_n 0, 1) := by decide +kernel
theorem dX5_addNumber_44 : decode cX5_addNumber 44 = .ok (.bipush 48, 2) := by decide +kernel
theorem dX5_addNumber_46 : decode cX5_addNumber 46 = .ok (.iload_n 2, 1) := by decide +kernel
theorem dX5_addNumber_47 : decode cX5_addNumber 47 = .ok (.iload_n 3, 1) := by decide +kernel
theorem dX5_addNumber_48 : decode cX5_addNumber 48 = .ok (.idiv, 1) := by decide +kernel
theorem dX5_addNumber_49 : decode cX5_addNumber 49 = .ok (.bipush 10, 2) := by decide +kernel
theorem dX5_addNumber_51 : decode cX5_addNumber 51 = .ok (.irem, 1) := by decide +kernel
theorem dX5_addNumber_52 : decode cX5_addNumber 52 = .ok (.iadd, 1) := by decide +kernel
theorem dX5_addNumber_53 : decode cX5_addNumber 53 = .ok (.invokevirtual 160, 3) := by decide +kernel
theorem dX5_addNumber_56 : decode cX5_addNumber 56 = .ok (.iload_n 3, 1) := by decide +kernel
theorem dX5_addNumber_57 : decode cX5_addNumber 57 = .ok (.bipush 10, 2) := by decide +kernel
theorem dX5_addNumber_59 : decode cX5_addNumber 59 = .ok (.idiv, 1) := by decide +kernel
theorem dX5_addNumber_60 : decode cX5_addNumber 60 = .ok (.istore_n 3, 1) := by decide +kernel
theorem dX5_addNumber_61 : decode cX5_addNumber 61 = .ok (.goto (-22), 3) := by decide +kernel
theorem dX5_addNumber_64 : decode cX5_addNumber 64 = .ok (.return_, 1) := by decide +kernel
theorem dX5_addName_0 : decode cX5_addName 0 = .ok (.sipush 19683, 3) := by decide +kernel
theorem dX5_addName_3 : decode cX5_addName 3 = .ok (.istore_n 2, 1) := by decide +kernel
theorem dX5_addName_4 : decode cX5_addName 4 = .ok (.iload_n 2, 1) := by decide +kernel
theorem dX5_addName_5 : decode cX5_addName 5 = .ok (.ifCond .le 32, 3) := by decide +kernel
theorem dX5_addName_8 : decode cX5_addName 8 = .ok (.iload_n 1, 1) := by decide +kernel
theorem dX5_addName_9 : decode cX5_addName 9 = .ok (.iload_n 2, 1) := by decide +kernel
theorem dX5_addName_10 : decode cX5_addName 10 = .ok (.idiv, 1) := by decide +kernel
theorem dX5_addName_11 : decode cX5_addName 11 = .ok (.ifCond .le 18, 3) := by decide +kernel
theorem dX5_addName_14 : decode cX5_addName 14 = .ok (.aload_n 0, 1) := by decide +kernel
theorem dX5_addName_15 : decode cX5_addName 15 = .ok (.bipush 97, 2) := by decide +kernel
theorem dX5_addName_17 : decode cX5_addName 17 = .ok (.iload_n 1, 1) := by decide +kernel
theorem dX5_addName_18 : decode cX5_addName 18 = .ok (.iload_n 2, 1) := by decide +kernel
theorem dX5_addName_19 : decode cX5_addName 19 = .ok (.idiv, 1) := by decide +kernel
theorem dX5_addName_20 : decode cX5_addName 20 = .ok (.bipush 27, 2) := by decide +kernel
theorem dX5_addName_22 : decode cX5_addName 22 = .ok (.irem, 1) := by decide +kernel
theorem dX5_addName_23 : decode cX5_addName 23 = .ok (.iadd, 1) := by decide +kernel
theorem dX5_addName_24 : decode cX5_addName 24 = .ok (.iconst 1, 1) := by decide +kernel
theorem dX5_addName_25 : decode cX5_addName 25 = .ok (.isub, 1) := by decide +kernel
theorem dX5_addName_26 : decode cX5_addName 26 = .ok (.invokevirtual 160, 3) := by decide +kernel
theorem dX5_addName_29 : decode cX5_addName 29 = .ok (.iload_n 2, 1) := by decide +kernel
theorem dX5_addName_30 : decode cX5_addName 30 = .ok (.bipush 27, 2) := by decide +kernel
theorem dX5_addName_32 : decode cX5_addName 32 = .ok (.idiv, 1) := by decide +kernel
theorem dX5_addName_33 : decode cX5_addName 33 = .ok (.istore_n 2, 1) := by decide +kernel
theorem dX5_addName_34 : decode cX5_addName 34 = .ok (.goto (-30), 3) := by decide +kernel
theorem dX5_addName_37 : decode cX5_addName 37 = .ok (.return_, 1) := by decide +kernel
theorem dX5_write_0 : decode cX5_write 0 = .ok (.aload_n 0, 1) := by decide +kernel
theorem dX5_write_1 : decode cX5_write 1 = .ok (.aload_n 0, 1) := by decide +kernel
theorem dX5_write_2 : decode cX5_write 2 = .ok (.iload_n 1, 1) := by decide +kernel
theorem dX5_write_3 : decode cX5_write 3 = .ok (.invokevirtual 147, 3) := by decide +kernel
theorem dX5_write_6 : decode cX5_write 6 = .ok (.putfield 82, 3) := by decide +kernel
theorem dX5_write_9 : decode cX5_write 9 = .ok (.aload_n 0, 1) := by decide +kernel
theorem dX5_write_10 : decode cX5_write 10 = .ok (.getfield 82, 3) := by decide +kernel
theorem dX5_write_13 : decode cX5_write 13 = .ok (.ifCond .eq 5, 3) := by decide +kernel
theorem dX5_write_16 : decode cX5_write 16 = .ok (.iconst 0, 1) := by decide +kernel
theorem dX5_write_17 : decode cX5_write 17 = .ok (.ireturn, 1) := by decide +kernel
theorem dX5_write_18 : decode cX5_write 18 = .ok (.aload_n 0, 1) := by decide +kernel
theorem dX5_write_19 : decode cX5_write 19 = .ok (.iconst 0, 1) := by decide +kernel
theorem dX5_write_20 : decode cX5_write 20 = .ok (.putfield 157, 3) := by decide +kernel
theorem dX5_write_23 : decode cX5_write 23 = .ok (.aload_n 0, 1) := by decide +kernel
theorem dX5_write_24 : decode cX5_write 24 = .ok (.iload_n 1, 1) := by decide +kernel
theorem dX5_write_25 : decode cX5_write 25 = .ok (.invokevirtual 150, 3) := by decide +kernel
theorem dX5_write_28 : decode cX5_write 28 = .ok (.istore_n 2, 1) := by decide +kernel
theorem dX5_write_29 : decode cX5_write 29 = .ok (.iload_n 2, 1) := by decide +kernel
theorem dX5_write_30 : decode cX5_write 30 = .ok (.ifCond .ge 14, 3) := by decide +kernel
theorem dX5_write_33 : decode cX5_write 33 = .ok (.aload_n 0, 1) := by decide +kernel
theorem dX5_write_34 : decode cX5_write 34 = .ok (.bipush 63, 2) := by decide +kernel
theorem dX5_write_36 : decode cX5_write 36 = .ok (.invokevirtual 160, 3) := by decide +kernel
theorem dX5_write_39 : decode cX5_write 39 = .ok (.aload_n 0, 1) := by decide +kernel
theorem dX5_write_40 : decode cX5_write 40 = .ok (.getfield 157, 3) := by decide +kernel
theorem dX5_write_43 : decode cX5_write 43 = .ok (.ireturn, 1) := by decide +kernel
theorem dX5_write_44 : decode cX5_write 44 = .ok (.aload_n 0, 1) := by decide +kernel
theorem dX5_write_45 : decode cX5_write 45 = .ok (.aload_n 0, 1) := by decide +kernel
theorem dX5_write_46 : decode cX5_write 46 = .ok (.getfield 13, 3) := by decide +kernel
theorem dX5_write_49 : decode cX5_write 49 = .ok (.iload_n 2, 1) := by decide +kernel
theorem dX5_write_50 : decode cX5_write 50 = .ok (.iaload, 1) := by decide +kernel
theorem dX5_write_51 : decode cX5_write 51 = .ok (.invokevirtual 163, 3) := by decide +kernel
theorem dX5_write_54 : decode cX5_write 54 = .ok (.iconst 0, 1) := by decide +kernel
theorem dX5_write_55 : decode cX5_write 55 = .ok (.istore_n 3, 1) := by decide +kernel
theorem dX5_write_56 : decode cX5_write 56 = .ok (.iload_n 3, 1) := by decide +kernel
theorem dX5_write_57 : decode cX5_write 57 = .ok (.aload_n 0, 1) := by decide +kernel
theorem dX5_write_58 : decode cX5_write 58 = .ok (.getfield 23, 3) := by decide +kernel
theorem dX5_write_61 : decode cX5_write 61 = .ok (.iload_n 2, 1) := by decide +kernel
theorem dX5_write_62 : decode cX5_write 62 = .ok (.iaload, 1) := by decide +kernel
theorem dX5_write_63 : decode cX5_write 63 = .ok (.if_icmp .ge 35, 3) := by decide +kernel
theorem dX5_write_66 : decode cX5_write 66 = .ok (.aload_n 0, 1) := by decide +kernel
theorem dX5_write_67 : decode cX5_write 67 = .ok (.iload_n 3, 1) := by decide +kernel
theorem dX5_write_68 : decode cX5_write 68 = .ok (.ifCond .ne 8, 3) := by decide +kernel
theorem dX5_write_71 : decode cX5_write 71 = .ok (.bipush 32, 2) := by decide +kernel
theorem dX5_write_73 : decode cX5_write 73 = .ok (.goto 5, 3) := by decide +kernel
theorem dX5_write_76 : decode cX5_write 76 = .ok (.bipush 44, 2) := by decide +kernel
theorem dX5_write_78 : decode cX5_write 78 = .ok (.invokevirtual 160, 3) := by decide +kernel
theorem dX5_write_81 : decode cX5_write 81 = .ok (.aload_n 0, 1) := by decide +kernel
theorem dX5_write_82 : decode cX5_write 82 = .ok (.aload_n 0, 1) := by decide +kernel
theorem dX5_write_83 : decode cX5_write 83 = .ok (.iload_n 2, 1) := by decide +kernel
theorem dX5_write_84 : decode cX5_write 84 = .ok (.iload_n 1, 1) := by decide +kernel
theorem dX5_write_85 : decode cX5_write 85 = .ok (.iload_n 3, 1) := by decide +kernel
theorem dX5_write_86 : decode cX5_write 86 = .ok (.invokevirtual 153, 3) := by decide +kernel
theorem dX5_write_89 : decode cX5_write 89 = .ok (.invokevirtual 166, 3) := by decide +kernel
theorem dX5_write_92 : decode cX5_write 92 = .ok (.iinc 3 1, 3) := by decide +kernel
theorem dX5_write_95 : decode cX5_write 95 = .ok (.goto (-39), 3) := by decide +kernel
theorem dX5_write_98 : decode cX5_write 98 = .ok (.aload_n 0, 1) := by decide +kernel
theorem dX5_write_99 : decode cX5_write 99 = .ok (.getfield 157, 3) := by decide +kernel
theorem dX5_write_102 : decode cX5_write 102 = .ok (.ireturn, 1) := by decide +kernel
theorem dX5_written_0 : decode cX5_written 0 = .ok (.aload_n 0, 1) := by decide +kernel
theorem dX5_written_1 : decode cX5_written 1 = .ok (.iconst 0, 1) := by decide +kernel
theorem dX5_written_2 : decode cX5_written 2 = .ok (.putfield 82, 3) := by decide +kernel
theorem dX5_written_5 : decode cX5_written 5 = .ok (.iload_n 1, 1) := by decide +kernel
theorem dX5_written_6 : decode cX5_written 6 = .ok (.ifCond .lt 11, 3) := by decide +kernel
theorem dX5_written_9 : decode cX5_written 9 = .ok (.iload_n 1, 1) := by decide +kernel
theorem dX5_written_10 : decode cX5_written 10 = .ok (.aload_n 0, 1) := by decide +kernel
theorem dX5_written_11 : decode cX5_written 11 = .ok (.getfield 157, 3) := by decide +kernel
theorem dX5_written_14 : decode cX5_written 14 = .ok (.if_icmp .lt 7, 3) := by decide +kernel
theorem dX5_written_17 : decode cX5_written 17 = .ok (.iconst 0, 1) := by decide +kernel
theorem dX5_written_18 : decode cX5_written 18 = .ok (.goto 9, 3) := by decide +kernel
theorem dX5_written_21 : decode cX5_written 21 = .ok (.aload_n 0, 1) := by decide +kernel
theorem dX5_written_22 : decode cX5_written 22 = .ok (.getfield 79, 3) := by decide +kernel
theorem dX5_written_25 : decode cX5_written 25 = .ok (.iload_n 1, 1) := by decide +kernel
theorem dX5_written_26 : decode cX5_written 26 = .ok (.caload, 1) := by decide +kernel
theorem dX5_written_27 : decode cX5_written 27 = .ok (.ireturn, 1) := by decide +kernel
theorem dX5_isLabelLetter_0 : decode cX5_isLabelLetter 0 = .ok (.iload_n 0, 1) := by decide +kernel
theorem dX5_isLabelLetter_1 : decode cX5_isLabelLetter 1 = .ok (.bipush 65, 2) := by decide +kernel
theorem dX5_isLabelLetter_3 : decode cX5_isLabelLetter 3 = .ok (.if_icmp .lt 13, 3) := by decide +kernel
theorem dX5_isLabelLetter_6 : decode cX5_isLabelLetter 6 = .ok (.iload_n 0, 1) := by decide +kernel
theorem dX5_isLabelLetter_7 : decode cX5_isLabelLetter 7 = .ok (.bipush 70, 2) := by decide +kernel
theorem dX5_isLabelLetter_9 : decode cX5_isLabelLetter 9 = .ok (.if_icmp .gt 7, 3) := by decide +kernel
theorem dX5_isLabelLetter_12 : decode cX5_isLabelLetter 12 = .ok (.iconst 1, 1) := by decide +kernel
theorem dX5_isLabelLetter_13 : decode cX5_isLabelLetter 13 = .ok (.goto 4, 3) := by decide +kernel
theorem dX5_isLabelLetter_16 : decode cX5_isLabelLetter 16 = .ok (.iconst 0, 1) := by decide +kernel
theorem dX5_isLabelLetter_17 : decode cX5_isLabelLetter 17 = .ok (.ireturn, 1) := by decide +kernel
theorem dX5_readOperand_0 : decode cX5_readOperand 0 = .ok (.aload_n 0, 1) := by decide +kernel
theorem dX5_readOperand_1 : decode cX5_readOperand 1 = .ok (.getfield 66, 3) := by decide +kernel
theorem dX5_readOperand_4 : decode cX5_readOperand 4 = .ok (.iload_n 1, 1) := by decide +kernel
theorem dX5_readOperand_5 : decode cX5_readOperand 5 = .ok (.aload_n 0, 1) := by decide +kernel
theorem dX5_readOperand_6 : decode cX5_readOperand 6 = .ok (.invokevirtual 95, 3) := by decide +kernel
theorem dX5_readOperand_9 : decode cX5_readOperand 9 = .ok (.invokestatic 169, 3) := by decide +kernel
theorem dX5_readOperand_12 : decode cX5_readOperand 12 = .ok (.bastore, 1) := by decide +kernel
theorem dX5_readOperand_13 : decode cX5_readOperand 13 = .ok (.aload_n 0, 1) := by decide +kernel
theorem dX5_readOperand_14 : decode cX5_readOperand 14 = .ok (.getfield 66, 3) := by decide +kernel
theorem dX5_readOperand_17 : decode cX5_readOperand 17 = .ok (.iload_n 1, 1) := by decide +kernel
theorem dX5_readOperand_18 : decode cX5_readOperand 18 = .ok (.baload, 1) := by decide +kernel
theorem dX5_readOperand_19 : decode cX5_readOperand 19 = .ok (.ifCond .eq 27, 3) := by decide +kernel
theorem dX5_readOperand_22 : decode cX5_readOperand 22 = .ok (.aload_n 0, 1) := by decide +kernel
theorem dX5_readOperand_23 : decode cX5_readOperand 23 = .ok (.getfield 63, 3) := by decide +kernel
theorem dX5_readOperand_26 : decode cX5_readOperand 26 = .ok (.iload_n 1, 1) := by decide +kernel
theorem dX5_readOperand_27 : decode cX5_readOperand 27 = .ok (.aload_n 0, 1) := by decide +kernel
theorem dX5_readOperand_28 : decode cX5_readOperand 28 = .ok (.invokevirtual 95, 3) := by decide +kernel
theorem dX5_readOperand_31 : decode cX5_readOperand 31 = .ok (.bipush 65, 2) := by decide +kernel
theorem dX5_readOperand_33 : decode cX5_readOperand 33 = .ok (.isub, 1) := by decide +kernel
theorem dX5_readOperand_34 : decode cX5_readOperand 34 = .ok (.iastore, 1) := by decide +kernel
theorem dX5_readOperand_35 : decode cX5_readOperand 35 = .ok (.aload_n 0, 1) := by decide +kernel
theorem dX5_readOperand_36 : decode cX5_readOperand 36 = .ok (.dup, 1) := by decide +kernel
theorem dX5_readOperand_37 : decode cX5_readOperand 37 = .ok (.getfield 88, 3) := by decide +kernel
theorem dX5_readOperand_40 : decode cX5_readOperand 40 = .ok (.iconst 1, 1) := by decide +kernel
theorem dX5_readOperand_41 : decode cX5_readOperand 41 = .ok (.iadd, 1) := by decide +kernel
theorem dX5_readOperand_42 : decode cX5_readOperand 42 = .ok (.putfield 88, 3) := by decide +kernel
theorem dX5_readOperand_45 : decode cX5_readOperand 45 = .ok (.return_, 1) := by decide +kernel
theorem dX5_readOperand_46 : decode cX5_readOperand 46 = .ok (.aload_n 0, 1) := by decide +kernel
theorem dX5_readOperand_47 : decode cX5_readOperand 47 = .ok (.invokevirtual 95, 3) := by decide +kernel
theorem dX5_readOperand_50 : decode cX5_readOperand 50 = .ok (.bipush 45, 2) := by decide +kernel
theorem dX5_readOperand_52 : decode cX5_readOperand 52 = .ok (.if_icmp .ne 7, 3) := by decide +kernel
theorem dX5_readOperand_55 : decode cX5_readOperand 55 = .ok (.iconst 1, 1) := by decide +kernel
theorem dX5_readOperand_56 : decode cX5_readOperand 56 = .ok (.goto 4, 3) := by decide +kernel
theorem dX5_readOperand_59 : decode cX5_readOperand 59 = .ok (.iconst 0, 1) := by decide +kernel
theorem dX5_readOperand_60 : decode cX5_readOperand 60 = .ok (.istore_n 2, 1) := by decide +kernel
theorem dX5_readOperand_61 : decode cX5_readOperand 61 = .ok (.aload_n 0, 1) := by decide +kernel
theorem dX5_readOperand_62 : decode cX5_readOperand 62 = .ok (.iload_n 2, 1) := by decide +kernel
theorem dX5_readOperand_63 : decode cX5_readOperand 63 = .ok (.ifCond .eq 12, 3) := by decide +kernel
theorem dX5_readOperand_66 : decode cX5_readOperand 66 = .ok (.aload_n 0, 1) := by decide +kernel
theorem dX5_readOperand_67 : decode cX5_readOperand 67 = .ok (.getfield 88, 3) := by decide +kernel
theorem dX5_readOperand_70 : decode cX5_readOperand 70 = .ok (.iconst 1, 1) := by decide +kernel
theorem dX5_readOperand_71 : decode cX5_readOperand 71 = .ok (.iadd, 1) := by decide +kernel
theorem dX5_readOperand_72 : decode cX5_readOperand 72 = .ok (.goto 7, 3) := by decide +kernel
theorem dX5_readOperand_75 : decode cX5_readOperand 75 = .ok (.aload_n 0, 1) := by decide +kernel
theorem dX5_readOperand_76 : decode cX5_readOperand 76 = .ok (.getfield 88, 3) := by decide +kernel
theorem dX5_readOperand_79 : decode cX5_readOperand 79 = .ok (.putfield 88, 3) := by decide +kernel
theorem dX5_readOperand_82 : decode cX5_readOperand 82 = .ok (.iconst 0, 1) := by decide +kernel
theorem dX5_readOperand_83 : decode cX5_readOperand 83 = .ok (.istore_n 3, 1) := by decide +kernel
theorem dX5_readOperand_84 : decode cX5_readOperand 84 = .ok (.iconst 0, 1) := by decide +kernel
theorem dX5_readOperand_85 : decode cX5_readOperand 85 = .ok (.istore 4, 2) := by decide +kernel
theorem dX5_readOperand_87 : decode cX5_readOperand 87 = .ok (.aload_n 0, 1) := by decide +kernel
theorem dX5_readOperand_88 : decode cX5_readOperand 88 = .ok (.invokevirtual 95, 3) := by decide +kernel
theorem dX5_readOperand_91 : decode cX5_readOperand 91 = .ok (.invokestatic 172, 3) := by decide +kernel
theorem dX5_readOperand_94 : decode cX5_readOperand 94 = .ok (.ifCond .eq 39, 3) := by decide +kernel
theorem dX5_readOperand_97 : decode cX5_readOperand 97 = .ok (.iload 4, 2) := by decide +kernel
theorem dX5_readOperand_99 : decode cX5_readOperand 99 = .ok (.bipush 6, 2) := by decide +kernel
theorem dX5_readOperand_101 : decode cX5_readOperand 101 = .ok (.if_icmp .ge 32, 3) := by decide +kernel
theorem dX5_readOperand_104 : decode cX5_readOperand 104 = .ok (.bipush 10, 2) := by decide +kernel
theorem dX5_readOperand_106 : decode cX5_readOperand 106 = .ok (.iload_n 3, 1) := by decide +kernel
theorem dX5_readOperand_107 : decode cX5_readOperand 107 = .ok (.imul, 1) := by decide +kernel
theorem dX5_readOperand_108 : decode cX5_readOperand 108 = .ok (.aload_n 0, 1) := by decide +kernel
theorem dX5_readOperand_109 : decode cX5_readOperand 109 = .ok (.invokevirtual 95, 3) := by decide +kernel
theorem dX5_readOperand_112 : decode cX5_readOperand 112 = .ok (.iadd, 1) := by decide +kernel
theorem dX5_readOperand_113 : decode cX5_readOperand 113 = .ok (.bipush 48, 2) := by decide +kernel
theorem dX5_readOperand_115 : decode cX5_readOperand 115 = .ok (.isub, 1) := by decide +kernel
theorem dX5_readOperand_116 : decode cX5_readOperand 116 = .ok (.istore_n 3, 1) := by decide +kernel
theorem dX5_readOperand_117 : decode cX5_readOperand 117 = .ok (.iinc 4 1, 3) := by decide +kernel
theorem dX5_readOperand_120 : decode cX5_readOperand 120 = .ok (.aload_n 0, 1) := by decide +kernel
theorem dX5_readOperand_121 : decode cX5_readOperand 121 = .ok (.dup, 1) := by decide +kernel
theorem dX5_readOperand_122 : decode cX5_readOperand 122 = .ok (.getfield 88, 3) := by decide +kernel
theorem dX5_readOperand_125 : decode cX5_readOperand 125 = .ok (.iconst 1, 1) := by decide +kernel
theorem dX5_readOperand_126 : decode cX5_readOperand 126 = .ok (.iadd, 1) := by decide +kernel
theorem dX5_readOperand_127 : decode cX5_readOperand 127 = .ok (.putfield 88, 3) := by decide +kernel
theorem dX5_readOperand_130 : decode cX5_readOperand 130 = .ok (.goto (-43), 3) := by decide +kernel
theorem dX5_readOperand_133 : decode cX5_readOperand 133 = .ok (.aload_n 0, 1) := by decide +kernel
theorem dX5_readOperand_134 : decode cX5_readOperand 134 = .ok (.aload_n 0, 1) := by decide +kernel
theorem dX5_readOperand_135 : decode cX5_readOperand 135 = .ok (.getfield 91, 3) := by decide +kernel
theorem dX5_readOperand_138 : decode cX5_readOperand 138 = .ok (.ifCond .ne 15, 3) := by decide +kernel
theorem dX5_readOperand_141 : decode cX5_readOperand 141 = .ok (.iload 4, 2) := by decide +kernel
theorem dX5_readOperand_143 : decode cX5_readOperand 143 = .ok (.iconst 1, 1) := by decide +kernel
theorem dX5_readOperand_144 : decode cX5_readOperand 144 = .ok (.if_icmp .lt 9, 3) := by decide +kernel
theorem dX5_readOperand_147 : decode cX5_readOperand 147 = .ok (.iload 4, 2) := by decide +kernel
theorem dX5_readOperand_149 : decode cX5_readOperand 149 = .ok (.iconst 5, 1) := by decide +kernel
theorem dX5_readOperand_150 : decode cX5_readOperand 150 = .ok (.if_icmp .le 7, 3) := by decide +kernel
theorem dX5_readOperand_153 : decode cX5_readOperand 153 = .ok (.iconst 1, 1) := by decide +kernel
theorem dX5_readOperand_154 : decode cX5_readOperand 154 = .ok (.goto 4, 3) := by decide +kernel
theorem dX5_readOperand_157 : decode cX5_readOperand 157 = .ok (.iconst 0, 1) := by decide +kernel
theorem dX5_readOperand_158 : decode cX5_readOperand 158 = .ok (.putfield 91, 3) := by decide +kernel
theorem dX5_readOperand_161 : decode cX5_readOperand 161 = .ok (.aload_n 0, 1) := by decide +kernel
theorem dX5_readOperand_162 : decode cX5_readOperand 162 = .ok (.getfield 63, 3) := by decide +kernel
theorem dX5_readOperand_165 : decode cX5_readOperand 165 = .ok (.iload_n 1, 1) := by decide +kernel
theorem dX5_readOperand_166 : decode cX5_readOperand 166 = .ok (.iload_n 2, 1) := by decide +kernel
theorem dX5_readOperand_167 : decode cX5_readOperand 167 = .ok (.ifCond .eq 8, 3) := by decide +kernel
theorem dX5_readOperand_170 : decode cX5_readOperand 170 = .ok (.iload_n 3, 1) := by decide +kernel
theorem dX5_readOperand_171 : decode cX5_readOperand 171 = .ok (.ineg, 1) := by decide +kernel
theorem dX5_readOperand_172 : decode cX5_readOperand 172 = .ok (.goto 4, 3) := by decide +kernel
theorem dX5_readOperand_175 : decode cX5_readOperand 175 = .ok (.iload_n 3, 1) := by decide +kernel
theorem dX5_readOperand_176 : decode cX5_readOperand 176 = .ok (.iastore, 1) := by decide +kernel
theorem dX5_readOperand_177 : decode cX5_readOperand 177 = .ok (.return_, 1) := by decide +kernel
theorem dX5_readOperands_0 : decode cX5_readOperands 0 = .ok (.iconst 0, 1) := by decide +kernel
theorem dX5_readOperands_1 : decode cX5_readOperands 1 = .ok (.istore_n 1, 1) := by decide +kernel
theorem dX5_readOperands_2 : decode cX5_readOperands 2 = .ok (.aload_n 0, 1) := by decide +kernel
theorem dX5_readOperands_3 : decode cX5_readOperands 3 = .ok (.invokevirtual 95, 3) := by decide +kernel
theorem dX5_readOperands_6 : decode cX5_readOperands 6 = .ok (.bipush 32, 2) := by decide +kernel
theorem dX5_readOperands_8 : decode cX5_readOperands 8 = .ok (.if_icmp .ne 7, 3) := by decide +kernel
theorem dX5_readOperands_11 : decode cX5_readOperands 11 = .ok (.iconst 1, 1) := by decide +kernel
theorem dX5_readOperands_12 : decode cX5_readOperands 12 = .ok (.goto 4, 3) := by decide +kernel
theorem dX5_readOperands_15 : decode cX5_readOperands 15 = .ok (.iconst 0, 1) := by decide +kernel
theorem dX5_readOperands_16 : decode cX5_readOperands 16 = .ok (.istore_n 2, 1) := by decide +kernel
theorem dX5_readOperands_17 : decode cX5_readOperands 17 = .ok (.iload_n 2, 1) := by decide +kernel
theorem dX5_readOperands_18 : decode cX5_readOperands 18 = .ok (.ifCond .eq 74, 3) := by decide +kernel
theorem dX5_readOperands_21 : decode cX5_readOperands 21 = .ok (.aload_n 0, 1) := by decide +kernel
theorem dX5_readOperands_22 : decode cX5_readOperands 22 = .ok (.dup, 1) := by decide +kernel
theorem dX5_readOperands_23 : decode cX5_readOperands 23 = .ok (.getfield 88, 3) := by decide +kernel
theorem dX5_readOperands_26 : decode cX5_readOperands 26 = .ok (.iconst 1, 1) := by decide +kernel
theorem dX5_readOperands_27 : decode cX5_readOperands 27 = .ok (.iadd, 1) := by decide +kernel
theorem dX5_readOperands_28 : decode cX5_readOperands 28 = .ok (.putfield 88, 3) := by decide +kernel
theorem dX5_readOperands_31 : decode cX5_readOperands 31 = .ok (.aload_n 0, 1) := by decide +kernel
theorem dX5_readOperands_32 : decode cX5_readOperands 32 = .ok (.aload_n 0, 1) := by decide +kernel
theorem dX5_readOperands_33 : decode cX5_readOperands 33 = .ok (.getfield 91, 3) := by decide +kernel
theorem dX5_readOperands_36 : decode cX5_readOperands 36 = .ok (.ifCond .ne 8, 3) := by decide +kernel
theorem dX5_readOperands_39 : decode cX5_readOperands 39 = .ok (.iload_n 1, 1) := by decide +kernel
theorem dX5_readOperands_40 : decode cX5_readOperands 40 = .ok (.iconst 3, 1) := by decide +kernel
theorem dX5_readOperands_41 : decode cX5_readOperands 41 = .ok (.if_icmp .ne 7, 3) := by decide +kernel
theorem dX5_readOperands_44 : decode cX5_readOperands 44 = .ok (.iconst 1, 1) := by decide +kernel
theorem dX5_readOperands_45 : decode cX5_readOperands 45 = .ok (.goto 4, 3) := by decide +kernel
theorem dX5_readOperands_48 : decode cX5_readOperands 48 = .ok (.iconst 0, 1) := by decide +kernel
theorem dX5_readOperands_49 : decode cX5_readOperands 49 = .ok (.putfield 91, 3) := by decide +kernel
theorem dX5_readOperands_52 : decode cX5_readOperands 52 = .ok (.aload_n 0, 1) := by decide +kernel
theorem dX5_readOperands_53 : decode cX5_readOperands 53 = .ok (.getfield 91, 3) := by decide +kernel
theorem dX5_readOperands_56 : decode cX5_readOperands 56 = .ok (.ifCond .ne 11, 3) := by decide +kernel
theorem dX5_readOperands_59 : decode cX5_readOperands 59 = .ok (.aload_n 0, 1) := by decide +kernel
theorem dX5_readOperands_60 : decode cX5_readOperands 60 = .ok (.iload_n 1, 1) := by decide +kernel
theorem dX5_readOperands_61 : decode cX5_readOperands 61 = .ok (.invokevirtual 175, 3) := by decide +kernel
theorem dX5_readOperands_64 : decode cX5_readOperands 64 = .ok (.iinc 1 1, 3) := by decide +kernel
theorem dX5_readOperands_67 : decode cX5_readOperands 67 = .ok (.aload_n 0, 1) := by decide +kernel
theorem dX5_readOperands_68 : decode cX5_readOperands 68 = .ok (.getfield 91, 3) := by decide +kernel
theorem dX5_readOperands_71 : decode cX5_readOperands 71 = .ok (.ifCond .ne 16, 3) := by decide +kernel
theorem dX5_readOperands_74 : decode cX5_readOperands 74 = .ok (.aload_n 0, 1) := by decide +kernel
theorem dX5_readOperands_75 : decode cX5_readOperands 75 = .ok (.invokevirtual 95, 3) := by decide +kernel
theorem dX5_readOperands_78 : decode cX5_readOperands 78 = .ok (.bipush 44, 2) := by decide +kernel
theorem dX5_readOperands_80 : decode cX5_readOperands 80 = .ok (.if_icmp .ne 7, 3) := by decide +kernel
theorem dX5_readOperands_83 : decode cX5_readOperands 83 = .ok (.iconst 1, 1) := by decide +kernel
theorem dX5_readOperands_84 : decode cX5_readOperands 84 = .ok (.goto 4, 3) := by decide +kernel
theorem dX5_readOperands_87 : decode cX5_readOperands 87 = .ok (.iconst 0, 1) := by decide +kernel
theorem dX5_readOperands_88 : decode cX5_readOperands 88 = .ok (.istore_n 2, 1) := by decide +kernel
theorem dX5_readOperands_89 : decode cX5_readOperands 89 = .ok (.goto (-72), 3) := by decide +kernel
theorem dX5_readOperands_92 : decode cX5_readOperands 92 = .ok (.iload_n 1, 1) := by decide +kernel
theorem dX5_readOperands_93 : decode cX5_readOperands 93 = .ok (.ireturn, 1) := by decide +kernel
theorem dX5_line_0 : decode cX5_line 0 = .ok (.aload_n 0, 1) := by decide +kernel
theorem dX5_line_1 : decode cX5_line 1 = .ok (.iconst 0, 1) := by decide +kernel
theorem dX5_line_2 : decode cX5_line 2 = .ok (.putfield 88, 3) := by decide +kernel
theorem dX5_line_5 : decode cX5_line 5 = .ok (.aload_n 0, 1) := by decide +kernel
theorem dX5_line_6 : decode cX5_line 6 = .ok (.iconst 0, 1) := by decide +kernel
theorem dX5_line_7 : decode cX5_line 7 = .ok (.putfield 91, 3) := by decide +kernel
theorem dX5_line_10 : decode cX5_line 10 = .ok (.iconst (-1), 1) := by decide +kernel
theorem dX5_line_11 : decode cX5_line 11 = .ok (.istore_n 1, 1) := by decide +kernel
theorem dX5_line_12 : decode cX5_line 12 = .ok (.aload_n 0, 1) := by decide +kernel
theorem dX5_line_13 : decode cX5_line 13 = .ok (.invokevirtual 95, 3) := by decide +kernel
theorem dX5_line_16 : decode cX5_line 16 = .ok (.invokestatic 169, 3) := by decide +kernel
theorem dX5_line_19 : decode cX5_line 19 = .ok (.ifCond .eq 27, 3) := by decide +kernel
theorem dX5_line_22 : decode cX5_line 22 = .ok (.aload_n 0, 1) := by decide +kernel
theorem dX5_line_23 : decode cX5_line 23 = .ok (.invokevirtual 95, 3) := by decide +kernel
theorem dX5_line_26 : decode cX5_line 26 = .ok (.bipush 65, 2) := by decide +kernel
theorem dX5_line_28 : decode cX5_line 28 = .ok (.isub, 1) := by decide +kernel
theorem dX5_line_29 : decode cX5_line 29 = .ok (.istore_n 1, 1) := by decide +kernel
theorem dX5_line_30 : decode cX5_line 30 = .ok (.aload_n 0, 1) := by decide +kernel
theorem dX5_line_31 : decode cX5_line 31 = .ok (.dup, 1) := by decide +kernel
theorem dX5_line_32 : decode cX5_line 32 = .ok (.getfield 88, 3) := by decide +kernel
theorem dX5_line_35 : decode cX5_line 35 = .ok (.iconst 1, 1) := by decide +kernel
theorem dX5_line_36 : decode cX5_line 36 = .ok (.iadd, 1) := by decide +kernel
theorem dX5_line_37 : decode cX5_line 37 = .ok (.putfield 88, 3) := by decide +kernel
theorem dX5_line_40 : decode cX5_line 40 = .ok (.aload_n 0, 1) := by decide +kernel
theorem dX5_line_41 : decode cX5_line 41 = .ok (.bipush 58, 2) := by decide +kernel
theorem dX5_line_43 : decode cX5_line 43 = .ok (.invokevirtual 113, 3) := by decide +kernel
theorem dX5_line_46 : decode cX5_line 46 = .ok (.iconst 0, 1) := by decide +kernel
theorem dX5_line_47 : decode cX5_line 47 = .ok (.istore_n 2, 1) := by decide +kernel
theorem dX5_line_48 : decode cX5_line 48 = .ok (.iconst 0, 1) := by decide +kernel
theorem dX5_line_49 : decode cX5_line 49 = .ok (.istore_n 3, 1) := by decide +kernel
theorem dX5_line_50 : decode cX5_line 50 = .ok (.iload_n 1, 1) := by decide +kernel
theorem dX5_line_51 : decode cX5_line 51 = .ok (.ifCond .lt 14, 3) := by decide +kernel
theorem dX5_line_54 : decode cX5_line 54 = .ok (.aload_n 0, 1) := by decide +kernel
theorem dX5_line_55 : decode cX5_line 55 = .ok (.getfield 88, 3) := by decide +kernel
theorem dX5_line_58 : decode cX5_line 58 = .ok (.aload_n 0, 1) := by decide +kernel
theorem dX5_line_59 : decode cX5_line 59 = .ok (.getfield 85, 3) := by decide +kernel
theorem dX5_line_62 : decode cX5_line 62 = .ok (.if_icmp .ge 13, 3) := by decide +kernel
theorem dX5_line_65 : decode cX5_line 65 = .ok (.aload_n 0, 1) := by decide +kernel
theorem dX5_line_66 : decode cX5_line 66 = .ok (.invokevirtual 110, 3) := by decide +kernel
theorem dX5_line_69 : decode cX5_line 69 = .ok (.istore_n 2, 1) := by decide +kernel
theorem dX5_line_70 : decode cX5_line 70 = .ok (.aload_n 0, 1) := by decide +kernel
theorem dX5_line_71 : decode cX5_line 71 = .ok (.invokevirtual 178, 3) := by decide +kernel
theorem dX5_line_74 : decode cX5_line 74 = .ok (.istore_n 3, 1) := by decide +kernel
theorem dX5_line_75 : decode cX5_line 75 = .ok (.aload_n 0, 1) := by decide +kernel
theorem dX5_line_76 : decode cX5_line 76 = .ok (.aload_n 0, 1) := by decide +kernel
theorem dX5_line_77 : decode cX5_line 77 = .ok (.getfield 91, 3) := by decide +kernel
theorem dX5_line_80 : decode cX5_line 80 = .ok (.ifCond .ne 14, 3) := by decide +kernel
theorem dX5_line_83 : decode cX5_line 83 = .ok (.aload_n 0, 1) := by decide +kernel
theorem dX5_line_84 : decode cX5_line 84 = .ok (.getfield 88, 3) := by decide +kernel
theorem dX5_line_87 : decode cX5_line 87 = .ok (.aload_n 0, 1) := by decide +kernel
theorem dX5_line_88 : decode cX5_line 88 = .ok (.getfield 85, 3) := by decide +kernel
theorem dX5_line_91 : decode cX5_line 91 = .ok (.if_icmp .ge 7, 3) := by decide +kernel
theorem dX5_line_94 : decode cX5_line 94 = .ok (.iconst 1, 1) := by decide +kernel
theorem dX5_line_95 : decode cX5_line 95 = .ok (.goto 4, 3) := by decide +kernel
theorem dX5_line_98 : decode cX5_line 98 = .ok (.iconst 0, 1) := by decide +kernel
theorem dX5_line_99 : decode cX5_line 99 = .ok (.putfield 91, 3) := by decide +kernel
theorem dX5_line_102 : decode cX5_line 102 = .ok (.iconst 0, 1) := by decide +kernel
theorem dX5_line_103 : decode cX5_line 103 = .ok (.istore 4, 2) := by decide +kernel
theorem dX5_line_105 : decode cX5_line 105 = .ok (.iload 4, 2) := by decide +kernel
theorem dX5_line_107 : decode cX5_line 107 = .ok (.aload_n 0, 1) := by decide +kernel
theorem dX5_line_108 : decode cX5_line 108 = .ok (.getfield 181, 3) := by decide +kernel
theorem dX5_line_111 : decode cX5_line 111 = .ok (.if_icmp .ge 40, 3) := by decide +kernel
theorem dX5_line_114 : decode cX5_line 114 = .ok (.aload_n 0, 1) := by decide +kernel
theorem dX5_line_115 : decode cX5_line 115 = .ok (.aload_n 0, 1) := by decide +kernel
theorem dX5_line_116 : decode cX5_line 116 = .ok (.getfield 91, 3) := by decide +kernel
theorem dX5_line_119 : decode cX5_line 119 = .ok (.ifCond .ne 18, 3) := by decide +kernel
theorem dX5_line_122 : decode cX5_line 122 = .ok (.iload_n 1, 1) := by decide +kernel
theorem dX5_line_123 : decode cX5_line 123 = .ok (.ifCond .lt 18, 3) := by decide +kernel
theorem dX5_line_126 : decode cX5_line 126 = .ok (.aload_n 0, 1) := by decide +kernel
theorem dX5_line_127 : decode cX5_line 127 = .ok (.getfield 47, 3) := by decide +kernel
theorem dX5_line_130 : decode cX5_line 130 = .ok (.iload 4, 2) := by decide +kernel
theorem dX5_line_132 : decode cX5_line 132 = .ok (.iaload, 1) := by decide +kernel
theorem dX5_line_133 : decode cX5_line 133 = .ok (.iload_n 1, 1) := by decide +kernel
theorem dX5_line_134 : decode cX5_line 134 = .ok (.if_icmp .ne 7, 3) := by decide +kernel
theorem dX5_line_137 : decode cX5_line 137 = .ok (.iconst 1, 1) := by decide +kernel
theorem dX5_line_138 : decode cX5_line 138 = .ok (.goto 4, 3) := by decide +kernel
theorem dX5_line_141 : decode cX5_line 141 = .ok (.iconst 0, 1) := by decide +kernel
theorem dX5_line_142 : decode cX5_line 142 = .ok (.putfield 91, 3) := by decide +kernel
theorem dX5_line_145 : decode cX5_line 145 = .ok (.iinc 4 1, 3) := by decide +kernel
theorem dX5_line_148 : decode cX5_line 148 = .ok (.goto (-43), 3) := by decide +kernel
theorem dX5_line_151 : decode cX5_line 151 = .ok (.aload_n 0, 1) := by decide +kernel
theorem dX5_line_152 : decode cX5_line 152 = .ok (.iconst 0, 1) := by decide +kernel
theorem dX5_line_153 : decode cX5_line 153 = .ok (.putfield 85, 3) := by decide +kernel
theorem dX5_line_156 : decode cX5_line 156 = .ok (.aload_n 0, 1) := by decide +kernel
theorem dX5_line_157 : decode cX5_line 157 = .ok (.aload_n 0, 1) := by decide +kernel
theorem dX5_line_158 : decode cX5_line 158 = .ok (.getfield 91, 3) := by decide +kernel
theorem dX5_line_161 : decode cX5_line 161 = .ok (.ifCond .eq 7, 3) := by decide +kernel
theorem dX5_line_164 : decode cX5_line 164 = .ok (.iconst 1, 1) := by decide +kernel
theorem dX5_line_165 : decode cX5_line 165 = .ok (.goto 17, 3) := by decide +kernel
theorem dX5_line_168 : decode cX5_line 168 = .ok (.aload_n 0, 1) := by decide +kernel
theorem dX5_line_169 : decode cX5_line 169 = .ok (.getfield 181, 3) := by decide +kernel
theorem dX5_line_172 : decode cX5_line 172 = .ok (.bipush 20, 2) := by decide +kernel
theorem dX5_line_174 : decode cX5_line 174 = .ok (.if_icmp .ne 7, 3) := by decide +kernel
theorem dX5_line_177 : decode cX5_line 177 = .ok (.iconst 2, 1) := by decide +kernel
theorem dX5_line_178 : decode cX5_line 178 = .ok (.goto 4, 3) := by decide +kernel
theorem dX5_line_181 : decode cX5_line 181 = .ok (.iconst 0, 1) := by decide +kernel
theorem dX5_line_182 : decode cX5_line 182 = .ok (.putfield 82, 3) := by decide +kernel
theorem dX5_line_185 : decode cX5_line 185 = .ok (.aload_n 0, 1) := by decide +kernel
theorem dX5_line_186 : decode cX5_line 186 = .ok (.getfield 82, 3) := by decide +kernel
theorem dX5_line_189 : decode cX5_line 189 = .ok (.ifCond .eq 5, 3) := by decide +kernel
theorem dX5_line_192 : decode cX5_line 192 = .ok (.iconst 0, 1) := by decide +kernel
theorem dX5_line_193 : decode cX5_line 193 = .ok (.ireturn, 1) := by decide +kernel
theorem dX5_line_194 : decode cX5_line 194 = .ok (.aload_n 0, 1) := by decide +kernel
theorem dX5_line_195 : decode cX5_line 195 = .ok (.getfield 47, 3) := by decide +kernel
theorem dX5_line_198 : decode cX5_line 198 = .ok (.aload_n 0, 1) := by decide +kernel
theorem dX5_line_199 : decode cX5_line 199 = .ok (.getfield 181, 3) := by decide +kernel
theorem dX5_line_202 : decode cX5_line 202 = .ok (.iload_n 1, 1) := by decide +kernel
theorem dX5_line_203 : decode cX5_line 203 = .ok (.iastore, 1) := by decide +kernel
theorem dX5_line_204 : decode cX5_line 204 = .ok (.aload_n 0, 1) := by decide +kernel
theorem dX5_line_205 : decode cX5_line 205 = .ok (.getfield 50, 3) := by decide +kernel
theorem dX5_line_208 : decode cX5_line 208 = .ok (.aload_n 0, 1) := by decide +kernel
theorem dX5_line_209 : decode cX5_line 209 = .ok (.getfield 181, 3) := by decide +kernel
theorem dX5_line_212 : decode cX5_line 212 = .ok (.iload_n 2, 1) := by decide +kernel
theorem dX5_line_213 : decode cX5_line 213 = .ok (.iastore, 1) := by decide +kernel
theorem dX5_line_214 : decode cX5_line 214 = .ok (.aload_n 0, 1) := by decide +kernel
theorem dX5_line_215 : decode cX5_line 215 = .ok (.getfield 53, 3) := by decide +kernel
theorem dX5_line_218 : decode cX5_line 218 = .ok (.aload_n 0, 1) := by decide +kernel
theorem dX5_line_219 : decode cX5_line 219 = .ok (.getfield 181, 3) := by decide +kernel
theorem dX5_line_222 : decode cX5_line 222 = .ok (.iload_n 3, 1) := by decide +kernel
theorem dX5_line_223 : decode cX5_line 223 = .ok (.iastore, 1) := by decide +kernel
theorem dX5_line_224 : decode cX5_line 224 = .ok (.iconst 0, 1) := by decide +kernel
theorem dX5_line_225 : decode cX5_line 225 = .ok (.istore 4, 2) := by decide +kernel
theorem dX5_line_227 : decode cX5_line 227 = .ok (.iload 4, 2) := by decide +kernel
theorem dX5_line_229 : decode cX5_line 229 = .ok (.iconst 3, 1) := by decide +kernel
theorem dX5_line_230 : decode cX5_line 230 = .ok (.if_icmp .ge 51, 3) := by decide +kernel
theorem dX5_line_233 : decode cX5_line 233 = .ok (.aload_n 0, 1) := by decide +kernel
theorem dX5_line_234 : decode cX5_line 234 = .ok (.getfield 56, 3) := by decide +kernel
theorem dX5_line_237 : decode cX5_line 237 = .ok (.iconst 3, 1) := by decide +kernel
theorem dX5_line_238 : decode cX5_line 238 = .ok (.aload_n 0, 1) := by decide +kernel
theorem dX5_line_239 : decode cX5_line 239 = .ok (.getfield 181, 3) := by decide +kernel
theorem dX5_line_242 : decode cX5_line 242 = .ok (.imul, 1) := by decide +kernel
theorem dX5_line_243 : decode cX5_line 243 = .ok (.iload 4, 2) := by decide +kernel
theorem dX5_line_245 : decode cX5_line 245 = .ok (.iadd, 1) := by decide +kernel
theorem dX5_line_246 : decode cX5_line 246 = .ok (.aload_n 0, 1) := by decide +kernel
theorem dX5_line_247 : decode cX5_line 247 = .ok (.getfield 63, 3) := by decide +kernel
theorem dX5_line_250 : decode cX5_line 250 = .ok (.iload 4, 2) := by decide +kernel
theorem dX5_line_252 : decode cX5_line 252 = .ok (.iaload, 1) := by decide +kernel
theorem dX5_line_253 : decode cX5_line 253 = .ok (.iastore, 1) := by decide +kernel
theorem dX5_line_254 : decode cX5_line 254 = .ok (.aload_n 0, 1) := by decide +kernel
theorem dX5_line_255 : decode cX5_line 255 = .ok (.getfield 59, 3) := by decide +kernel
theorem dX5_line_258 : decode cX5_line 258 = .ok (.iconst 3, 1) := by decide +kernel
theorem dX5_line_259 : decode cX5_line 259 = .ok (.aload_n 0, 1) := by decide +kernel
theorem dX5_line_260 : decode cX5_line 260 = .ok (.getfield 181, 3) := by decide +kernel
theorem dX5_line_263 : decode cX5_line 263 = .ok (.imul, 1) := by decide +kernel
theorem dX5_line_264 : decode cX5_line 264 = .ok (.iload 4, 2) := by decide +kernel
theorem dX5_line_266 : decode cX5_line 266 = .ok (.iadd, 1) := by decide +kernel
theorem dX5_line_267 : decode cX5_line 267 = .ok (.aload_n 0, 1) := by decide +kernel
theorem dX5_line_268 : decode cX5_line 268 = .ok (.getfield 66, 3) := by decide +kernel
theorem dX5_line_271 : decode cX5_line 271 = .ok (.iload 4, 2) := by decide +kernel
theorem dX5_line_273 : decode cX5_line 273 = .ok (.baload, 1) := by decide +kernel
theorem dX5_line_274 : decode cX5_line 274 = .ok (.bastore, 1) := by decide +kernel
theorem dX5_line_275 : decode cX5_line 275 = .ok (.iinc 4 1, 3) := by decide +kernel
theorem dX5_line_278 : decode cX5_line 278 = .ok (.goto (-51), 3) := by decide +kernel
theorem dX5_line_281 : decode cX5_line 281 = .ok (.aload_n 0, 1) := by decide +kernel
theorem dX5_line_282 : decode cX5_line 282 = .ok (.dup, 1) := by decide +kernel
theorem dX5_line_283 : decode cX5_line 283 = .ok (.getfield 181, 3) := by decide +kernel
theorem dX5_line_286 : decode cX5_line 286 = .ok (.iconst 1, 1) := by decide +kernel
theorem dX5_line_287 : decode cX5_line 287 = .ok (.iadd, 1) := by decide +kernel
theorem dX5_line_288 : decode cX5_line 288 = .ok (.putfield 181, 3) := by decide +kernel
theorem dX5_line_291 : decode cX5_line 291 = .ok (.aload_n 0, 1) := by decide +kernel
theorem dX5_line_292 : decode cX5_line 292 = .ok (.getfield 181, 3) := by decide +kernel
theorem dX5_line_295 : decode cX5_line 295 = .ok (.ireturn, 1) := by decide +kernel
theorem dX5_erase_0 : decode cX5_erase 0 = .ok (.aload_n 0, 1) := by decide +kernel
theorem dX5_erase_1 : decode cX5_erase 1 = .ok (.iconst 0, 1) := by decide +kernel
theorem dX5_erase_2 : decode cX5_erase 2 = .ok (.putfield 82, 3) := by decide +kernel
theorem dX5_erase_5 : decode cX5_erase 5 = .ok (.aload_n 0, 1) := by decide +kernel
theorem dX5_erase_6 : decode cX5_erase 6 = .ok (.getfield 181, 3) := by decide +kernel
theorem dX5_erase_9 : decode cX5_erase 9 = .ok (.istore_n 1, 1) := by decide +kernel
theorem dX5_erase_10 : decode cX5_erase 10 = .ok (.aload_n 0, 1) := by decide +kernel
theorem dX5_erase_11 : decode cX5_erase 11 = .ok (.iconst 0, 1) := by decide +kernel
theorem dX5_erase_12 : decode cX5_erase 12 = .ok (.putfield 181, 3) := by decide +kernel
theorem dX5_erase_15 : decode cX5_erase 15 = .ok (.iload_n 1, 1) := by decide +kernel
theorem dX5_erase_16 : decode cX5_erase 16 = .ok (.ireturn, 1) := by decide +kernel
theorem dX5_lineOf_0 : decode cX5_lineOf 0 = .ok (.iconst 0, 1) := by decide +kernel
theorem dX5_lineOf_1 : decode cX5_lineOf 1 = .ok (.istore_n 2, 1) := by decide +kernel
theorem dX5_lineOf_2 : decode cX5_lineOf 2 = .ok (.iload_n 2, 1) := by decide +kernel
theorem dX5_lineOf_3 : decode cX5_lineOf 3 = .ok (.aload_n 0, 1) := by decide +kernel
theorem dX5_lineOf_4 : decode cX5_lineOf 4 = .ok (.getfield 181, 3) := by decide +kernel
theorem dX5_lineOf_7 : decode cX5_lineOf 7 = .ok (.if_icmp .ge 21, 3) := by decide +kernel
theorem dX5_lineOf_10 : decode cX5_lineOf 10 = .ok (.aload_n 0, 1) := by decide +kernel
theorem dX5_lineOf_11 : decode cX5_lineOf 11 = .ok (.getfield 47, 3) := by decide +kernel
theorem dX5_lineOf_14 : decode cX5_lineOf 14 = .ok (.iload_n 2, 1) := by decide +kernel
theorem dX5_lineOf_15 : decode cX5_lineOf 15 = .ok (.iaload, 1) := by decide +kernel
theorem dX5_lineOf_16 : decode cX5_lineOf 16 = .ok (.iload_n 1, 1) := by decide +kernel
theorem dX5_lineOf_17 : decode cX5_lineOf 17 = .ok (.if_icmp .ne 5, 3) := by decide +kernel
theorem dX5_lineOf_20 : decode cX5_lineOf 20 = .ok (.iload_n 2, 1) := by decide +kernel
theorem dX5_lineOf_21 : decode cX5_lineOf 21 = .ok (.ireturn, 1) := by decide +kernel
theorem dX5_lineOf_22 : decode cX5_lineOf 22 = .ok (.iinc 2 1, 3) := by decide +kernel
theorem dX5_lineOf_25 : decode cX5_lineOf 25 = .ok (.goto (-23), 3) := by decide +kernel
theorem dX5_lineOf_28 : decode cX5_lineOf 28 = .ok (.iconst (-1), 1) := by decide +kernel
theorem dX5_lineOf_29 : decode cX5_lineOf 29 = .ok (.ireturn, 1) := by decide +kernel
theorem dX5_missing_0 : decode cX5_missing 0 = .ok (.iconst 0, 1) := by decide +kernel
theorem dX5_missing_1 : decode cX5_missing 1 = .ok (.istore_n 1, 1) := by decide +kernel
theorem dX5_missing_2 : decode cX5_missing 2 = .ok (.iload_n 1, 1) := by decide +kernel
theorem dX5_missing_3 : decode cX5_missing 3 = .ok (.aload_n 0, 1) := by decide +kernel
theorem dX5_missing_4 : decode cX5_missing 4 = .ok (.getfield 181, 3) := by decide +kernel
theorem dX5_missing_7 : decode cX5_missing 7 = .ok (.if_icmp .ge 39, 3) := by decide +kernel
theorem dX5_missing_10 : decode cX5_missing 10 = .ok (.aload_n 0, 1) := by decide +kernel
theorem dX5_missing_11 : decode cX5_missing 11 = .ok (.getfield 50, 3) := by decide +kernel
theorem dX5_missing_14 : decode cX5_missing 14 = .ok (.iload_n 1, 1) := by decide +kernel
theorem dX5_missing_15 : decode cX5_missing 15 = .ok (.iaload, 1) := by decide +kernel
theorem dX5_missing_16 : decode cX5_missing 16 = .ok (.ifCond .le 24, 3) := by decide +kernel
theorem dX5_missing_19 : decode cX5_missing 19 = .ok (.aload_n 0, 1) := by decide +kernel
theorem dX5_missing_20 : decode cX5_missing 20 = .ok (.aload_n 0, 1) := by decide +kernel
theorem dX5_missing_21 : decode cX5_missing 21 = .ok (.getfield 50, 3) := by decide +kernel
theorem dX5_missing_24 : decode cX5_missing 24 = .ok (.iload_n 1, 1) := by decide +kernel
theorem dX5_missing_25 : decode cX5_missing 25 = .ok (.iaload, 1) := by decide +kernel
theorem dX5_missing_26 : decode cX5_missing 26 = .ok (.aload_n 0, 1) := by decide +kernel
theorem dX5_missing_27 : decode cX5_missing 27 = .ok (.getfield 53, 3) := by decide +kernel
theorem dX5_missing_30 : decode cX5_missing 30 = .ok (.iload_n 1, 1) := by decide +kernel
theorem dX5_missing_31 : decode cX5_missing 31 = .ok (.iaload, 1) := by decide +kernel
theorem dX5_missing_32 : decode cX5_missing 32 = .ok (.invokevirtual 120, 3) := by decide +kernel
theorem dX5_missing_35 : decode cX5_missing 35 = .ok (.ifCond .ge 5, 3) := by decide +kernel
theorem dX5_missing_38 : decode cX5_missing 38 = .ok (.iload_n 1, 1) := by decide +kernel
theorem dX5_missing_39 : decode cX5_missing 39 = .ok (.ireturn, 1) := by decide +kernel
theorem dX5_missing_40 : decode cX5_missing 40 = .ok (.iinc 1 1, 3) := by decide +kernel
theorem dX5_missing_43 : decode cX5_missing 43 = .ok (.goto (-41), 3) := by decide +kernel
theorem dX5_missing_46 : decode cX5_missing 46 = .ok (.iconst 0, 1) := by decide +kernel
theorem dX5_missing_47 : decode cX5_missing 47 = .ok (.istore_n 1, 1) := by decide +kernel
theorem dX5_missing_48 : decode cX5_missing 48 = .ok (.iload_n 1, 1) := by decide +kernel
theorem dX5_missing_49 : decode cX5_missing 49 = .ok (.aload_n 0, 1) := by decide +kernel
theorem dX5_missing_50 : decode cX5_missing 50 = .ok (.getfield 181, 3) := by decide +kernel
theorem dX5_missing_53 : decode cX5_missing 53 = .ok (.if_icmp .ge 59, 3) := by decide +kernel
theorem dX5_missing_56 : decode cX5_missing 56 = .ok (.iconst 0, 1) := by decide +kernel
theorem dX5_missing_57 : decode cX5_missing 57 = .ok (.istore_n 2, 1) := by decide +kernel
theorem dX5_missing_58 : decode cX5_missing 58 = .ok (.iload_n 2, 1) := by decide +kernel
theorem dX5_missing_59 : decode cX5_missing 59 = .ok (.aload_n 0, 1) := by decide +kernel
theorem dX5_missing_60 : decode cX5_missing 60 = .ok (.getfield 53, 3) := by decide +kernel
theorem dX5_missing_63 : decode cX5_missing 63 = .ok (.iload_n 1, 1) := by decide +kernel
theorem dX5_missing_64 : decode cX5_missing 64 = .ok (.iaload, 1) := by decide +kernel
theorem dX5_missing_65 : decode cX5_missing 65 = .ok (.if_icmp .ge 41, 3) := by decide +kernel
theorem dX5_missing_68 : decode cX5_missing 68 = .ok (.aload_n 0, 1) := by decide +kernel
theorem dX5_missing_69 : decode cX5_missing 69 = .ok (.getfield 59, 3) := by decide +kernel
theorem dX5_missing_72 : decode cX5_missing 72 = .ok (.iconst 3, 1) := by decide +kernel
theorem dX5_missing_73 : decode cX5_missing 73 = .ok (.iload_n 1, 1) := by decide +kernel
theorem dX5_missing_74 : decode cX5_missing 74 = .ok (.imul, 1) := by decide +kernel
theorem dX5_missing_75 : decode cX5_missing 75 = .ok (.iload_n 2, 1) := by decide +kernel
theorem dX5_missing_76 : decode cX5_missing 76 = .ok (.iadd, 1) := by decide +kernel
theorem dX5_missing_77 : decode cX5_missing 77 = .ok (.baload, 1) := by decide +kernel
theorem dX5_missing_78 : decode cX5_missing 78 = .ok (.ifCond .eq 22, 3) := by decide +kernel
theorem dX5_missing_81 : decode cX5_missing 81 = .ok (.aload_n 0, 1) := by decide +kernel
theorem dX5_missing_82 : decode cX5_missing 82 = .ok (.aload_n 0, 1) := by decide +kernel
theorem dX5_missing_83 : decode cX5_missing 83 = .ok (.getfield 56, 3) := by decide +kernel
theorem dX5_missing_86 : decode cX5_missing 86 = .ok (.iconst 3, 1) := by decide +kernel
theorem dX5_missing_87 : decode cX5_missing 87 = .ok (.iload_n 1, 1) := by decide +kernel
theorem dX5_missing_88 : decode cX5_missing 88 = .ok (.imul, 1) := by decide +kernel
theorem dX5_missing_89 : decode cX5_missing 89 = .ok (.iload_n 2, 1) := by decide +kernel
theorem dX5_missing_90 : decode cX5_missing 90 = .ok (.iadd, 1) := by decide +kernel
theorem dX5_missing_91 : decode cX5_missing 91 = .ok (.iaload, 1) := by decide +kernel
theorem dX5_missing_92 : decode cX5_missing 92 = .ok (.invokevirtual 184, 3) := by decide +kernel
theorem dX5_missing_95 : decode cX5_missing 95 = .ok (.ifCond .ge 5, 3) := by decide +kernel
theorem dX5_missing_98 : decode cX5_missing 98 = .ok (.iload_n 1, 1) := by decide +kernel
theorem dX5_missing_99 : decode cX5_missing 99 = .ok (.ireturn, 1) := by decide +kernel
theorem dX5_missing_100 : decode cX5_missing 100 = .ok (.iinc 2 1, 3) := by decide +kernel
theorem dX5_missing_103 : decode cX5_missing 103 = .ok (.goto (-45), 3) := by decide +kernel
theorem dX5_missing_106 : decode cX5_missing 106 = .ok (.iinc 1 1, 3) := by decide +kernel
theorem dX5_missing_109 : decode cX5_missing 109 = .ok (.goto (-61), 3) := by decide +kernel
theorem dX5_missing_112 : decode cX5_missing 112 = .ok (.iconst (-1), 1) := by decide +kernel
theorem dX5_missing_113 : decode cX5_missing 113 = .ok (.ireturn, 1) := by decide +kernel
theorem dX5_fieldOf_0 : decode cX5_fieldOf 0 = .ok (.iconst 3, 1) := by decide +kernel
theorem dX5_fieldOf_1 : decode cX5_fieldOf 1 = .ok (.iload_n 1, 1) := by decide +kernel
theorem dX5_fieldOf_2 : decode cX5_fieldOf 2 = .ok (.imul, 1) := by decide +kernel
theorem dX5_fieldOf_3 : decode cX5_fieldOf 3 = .ok (.iload_n 2, 1) := by decide +kernel
theorem dX5_fieldOf_4 : decode cX5_fieldOf 4 = .ok (.iadd, 1) := by decide +kernel
theorem dX5_fieldOf_5 : decode cX5_fieldOf 5 = .ok (.istore 5, 2) := by decide +kernel
theorem dX5_fieldOf_7 : decode cX5_fieldOf 7 = .ok (.iload_n 3, 1) := by decide +kernel
theorem dX5_fieldOf_8 : decode cX5_fieldOf 8 = .ok (.aload_n 0, 1) := by decide +kernel
theorem dX5_fieldOf_9 : decode cX5_fieldOf 9 = .ok (.getfield 35, 3) := by decide +kernel
theorem dX5_fieldOf_12 : decode cX5_fieldOf 12 = .ok (.iload 5, 2) := by decide +kernel
theorem dX5_fieldOf_14 : decode cX5_fieldOf 14 = .ok (.iaload, 1) := by decide +kernel
theorem dX5_fieldOf_15 : decode cX5_fieldOf 15 = .ok (.isub, 1) := by decide +kernel
theorem dX5_fieldOf_16 : decode cX5_fieldOf 16 = .ok (.aload_n 0, 1) := by decide +kernel
theorem dX5_fieldOf_17 : decode cX5_fieldOf 17 = .ok (.getfield 29, 3) := by decide +kernel
theorem dX5_fieldOf_20 : decode cX5_fieldOf 20 = .ok (.iload 5, 2) := by decide +kernel
theorem dX5_fieldOf_22 : decode cX5_fieldOf 22 = .ok (.iaload, 1) := by decide +kernel
theorem dX5_fieldOf_23 : decode cX5_fieldOf 23 = .ok (.iconst 2, 1) := by decide +kernel
theorem dX5_fieldOf_24 : decode cX5_fieldOf 24 = .ok (.if_icmp .ne 8, 3) := by decide +kernel
theorem dX5_fieldOf_27 : decode cX5_fieldOf 27 = .ok (.iload 4, 2) := by decide +kernel
theorem dX5_fieldOf_29 : decode cX5_fieldOf 29 = .ok (.goto 4, 3) := by decide +kernel
theorem dX5_fieldOf_32 : decode cX5_fieldOf 32 = .ok (.iconst 0, 1) := by decide +kernel
theorem dX5_fieldOf_33 : decode cX5_fieldOf 33 = .ok (.isub, 1) := by decide +kernel
theorem dX5_fieldOf_34 : decode cX5_fieldOf 34 = .ok (.istore 6, 2) := by decide +kernel
theorem dX5_fieldOf_36 : decode cX5_fieldOf 36 = .ok (.iload 6, 2) := by decide +kernel
theorem dX5_fieldOf_38 : decode cX5_fieldOf 38 = .ok (.aload_n 0, 1) := by decide +kernel
theorem dX5_fieldOf_39 : decode cX5_fieldOf 39 = .ok (.getfield 32, 3) := by decide +kernel
theorem dX5_fieldOf_42 : decode cX5_fieldOf 42 = .ok (.iload 5, 2) := by decide +kernel
theorem dX5_fieldOf_44 : decode cX5_fieldOf 44 = .ok (.iaload, 1) := by decide +kernel
theorem dX5_fieldOf_45 : decode cX5_fieldOf 45 = .ok (.irem, 1) := by decide +kernel
theorem dX5_fieldOf_46 : decode cX5_fieldOf 46 = .ok (.ifCond .eq 5, 3) := by decide +kernel
theorem dX5_fieldOf_49 : decode cX5_fieldOf 49 = .ok (.iconst (-1), 1) := by decide +kernel
theorem dX5_fieldOf_50 : decode cX5_fieldOf 50 = .ok (.ireturn, 1) := by decide +kernel
theorem dX5_fieldOf_51 : decode cX5_fieldOf 51 = .ok (.iload 6, 2) := by decide +kernel
theorem dX5_fieldOf_53 : decode cX5_fieldOf 53 = .ok (.aload_n 0, 1) := by decide +kernel
theorem dX5_fieldOf_54 : decode cX5_fieldOf 54 = .ok (.getfield 32, 3) := by decide +kernel
theorem dX5_fieldOf_57 : decode cX5_fieldOf 57 = .ok (.iload 5, 2) := by decide +kernel
theorem dX5_fieldOf_59 : decode cX5_fieldOf 59 = .ok (.iaload, 1) := by decide +kernel
theorem dX5_fieldOf_60 : decode cX5_fieldOf 60 = .ok (.idiv, 1) := by decide +kernel
theorem dX5_fieldOf_61 : decode cX5_fieldOf 61 = .ok (.istore 6, 2) := by decide +kernel
theorem dX5_fieldOf_63 : decode cX5_fieldOf 63 = .ok (.iconst 1, 1) := by decide +kernel
theorem dX5_fieldOf_64 : decode cX5_fieldOf 64 = .ok (.aload_n 0, 1) := by decide +kernel
theorem dX5_fieldOf_65 : decode cX5_fieldOf 65 = .ok (.getfield 26, 3) := by decide +kernel
theorem dX5_fieldOf_68 : decode cX5_fieldOf 68 = .ok (.iload 5, 2) := by decide +kernel
theorem dX5_fieldOf_70 : decode cX5_fieldOf 70 = .ok (.iaload, 1) := by decide +kernel
theorem dX5_fieldOf_71 : decode cX5_fieldOf 71 = .ok (.ishl, 1) := by decide +kernel
theorem dX5_fieldOf_72 : decode cX5_fieldOf 72 = .ok (.istore 7, 2) := by decide +kernel
theorem dX5_fieldOf_74 : decode cX5_fieldOf 74 = .ok (.aload_n 0, 1) := by decide +kernel
theorem dX5_fieldOf_75 : decode cX5_fieldOf 75 = .ok (.getfield 29, 3) := by decide +kernel
theorem dX5_fieldOf_78 : decode cX5_fieldOf 78 = .ok (.iload 5, 2) := by decide +kernel
theorem dX5_fieldOf_80 : decode cX5_fieldOf 80 = .ok (.iaload, 1) := by decide +kernel
theorem dX5_fieldOf_81 : decode cX5_fieldOf 81 = .ok (.ifCond .le 11, 3) := by decide +kernel
theorem dX5_fieldOf_84 : decode cX5_fieldOf 84 = .ok (.iload 7, 2) := by decide +kernel
theorem dX5_fieldOf_86 : decode cX5_fieldOf 86 = .ok (.ineg, 1) := by decide +kernel
theorem dX5_fieldOf_87 : decode cX5_fieldOf 87 = .ok (.iconst 2, 1) := by decide +kernel
theorem dX5_fieldOf_88 : decode cX5_fieldOf 88 = .ok (.idiv, 1) := by decide +kernel
theorem dX5_fieldOf_89 : decode cX5_fieldOf 89 = .ok (.goto 4, 3) := by decide +kernel
theorem dX5_fieldOf_92 : decode cX5_fieldOf 92 = .ok (.iconst 0, 1) := by decide +kernel
theorem dX5_fieldOf_93 : decode cX5_fieldOf 93 = .ok (.istore 8, 2) := by decide +kernel
theorem dX5_fieldOf_95 : decode cX5_fieldOf 95 = .ok (.iload 6, 2) := by decide +kernel
theorem dX5_fieldOf_97 : decode cX5_fieldOf 97 = .ok (.iload 8, 2) := by decide +kernel
theorem dX5_fieldOf_99 : decode cX5_fieldOf 99 = .ok (.iload 8, 2) := by decide +kernel
theorem dX5_fieldOf_101 : decode cX5_fieldOf 101 = .ok (.iload 7, 2) := by decide +kernel
theorem dX5_fieldOf_103 : decode cX5_fieldOf 103 = .ok (.iadd, 1) := by decide +kernel
theorem dX5_fieldOf_104 : decode cX5_fieldOf 104 = .ok (.iconst 1, 1) := by decide +kernel
theorem dX5_fieldOf_105 : decode cX5_fieldOf 105 = .ok (.isub, 1) := by decide +kernel
theorem dX5_fieldOf_106 : decode cX5_fieldOf 106 = .ok (.invokestatic 127, 3) := by decide +kernel
theorem dX5_fieldOf_109 : decode cX5_fieldOf 109 = .ok (.ifCond .eq 7, 3) := by decide +kernel
theorem dX5_fieldOf_112 : decode cX5_fieldOf 112 = .ok (.iconst (-1), 1) := by decide +kernel
theorem dX5_fieldOf_113 : decode cX5_fieldOf 113 = .ok (.goto 10, 3) := by decide +kernel
theorem dX5_fieldOf_116 : decode cX5_fieldOf 116 = .ok (.iload 6, 2) := by decide +kernel
theorem dX5_fieldOf_118 : decode cX5_fieldOf 118 = .ok (.iload 7, 2) := by decide +kernel
theorem dX5_fieldOf_120 : decode cX5_fieldOf 120 = .ok (.iconst 1, 1) := by decide +kernel
theorem dX5_fieldOf_121 : decode cX5_fieldOf 121 = .ok (.isub, 1) := by decide +kernel
theorem dX5_fieldOf_122 : decode cX5_fieldOf 122 = .ok (.iand, 1) := by decide +kernel
theorem dX5_fieldOf_123 : decode cX5_fieldOf 123 = .ok (.ireturn, 1) := by decide +kernel
theorem dX5_laid_0 : decode cX5_laid 0 = .ok (.aload_n 0, 1) := by decide +kernel
theorem dX5_laid_1 : decode cX5_laid 1 = .ok (.getfield 69, 3) := by decide +kernel
theorem dX5_laid_4 : decode cX5_laid 4 = .ok (.iload_n 1, 1) := by decide +kernel
theorem dX5_laid_5 : decode cX5_laid 5 = .ok (.iaload, 1) := by decide +kernel
theorem dX5_laid_6 : decode cX5_laid 6 = .ok (.istore_n 3, 1) := by decide +kernel
theorem dX5_laid_7 : decode cX5_laid 7 = .ok (.iconst 0, 1) := by decide +kernel
theorem dX5_laid_8 : decode cX5_laid 8 = .ok (.istore 4, 2) := by decide +kernel
theorem dX5_laid_10 : decode cX5_laid 10 = .ok (.iload 4, 2) := by decide +kernel
theorem dX5_laid_12 : decode cX5_laid 12 = .ok (.aload_n 0, 1) := by decide +kernel
theorem dX5_laid_13 : decode cX5_laid 13 = .ok (.getfield 17, 3) := by decide +kernel
theorem dX5_laid_16 : decode cX5_laid 16 = .ok (.iload_n 2, 1) := by decide +kernel
theorem dX5_laid_17 : decode cX5_laid 17 = .ok (.iaload, 1) := by decide +kernel
theorem dX5_laid_18 : decode cX5_laid 18 = .ok (.bipush 8, 2) := by decide +kernel
theorem dX5_laid_20 : decode cX5_laid 20 = .ok (.idiv, 1) := by decide +kernel
theorem dX5_laid_21 : decode cX5_laid 21 = .ok (.if_icmp .ge 19, 3) := by decide +kernel
theorem dX5_laid_24 : decode cX5_laid 24 = .ok (.aload_n 0, 1) := by decide +kernel
theorem dX5_laid_25 : decode cX5_laid 25 = .ok (.getfield 72, 3) := by decide +kernel
theorem dX5_laid_28 : decode cX5_laid 28 = .ok (.iload_n 3, 1) := by decide +kernel
theorem dX5_laid_29 : decode cX5_laid 29 = .ok (.iload 4, 2) := by decide +kernel
theorem dX5_laid_31 : decode cX5_laid 31 = .ok (.iadd, 1) := by decide +kernel
theorem dX5_laid_32 : decode cX5_laid 32 = .ok (.iconst 0, 1) := by decide +kernel
theorem dX5_laid_33 : decode cX5_laid 33 = .ok (.iastore, 1) := by decide +kernel
theorem dX5_laid_34 : decode cX5_laid 34 = .ok (.iinc 4 1, 3) := by decide +kernel
theorem dX5_laid_37 : decode cX5_laid 37 = .ok (.goto (-27), 3) := by decide +kernel
theorem dX5_laid_40 : decode cX5_laid 40 = .ok (.iconst 0, 1) := by decide +kernel
theorem dX5_laid_41 : decode cX5_laid 41 = .ok (.istore 4, 2) := by decide +kernel
theorem dX5_laid_43 : decode cX5_laid 43 = .ok (.iload 4, 2) := by decide +kernel
theorem dX5_laid_45 : decode cX5_laid 45 = .ok (.aload_n 0, 1) := by decide +kernel
theorem dX5_laid_46 : decode cX5_laid 46 = .ok (.getfield 23, 3) := by decide +kernel
theorem dX5_laid_49 : decode cX5_laid 49 = .ok (.iload_n 2, 1) := by decide +kernel
theorem dX5_laid_50 : decode cX5_laid 50 = .ok (.iaload, 1) := by decide +kernel
theorem dX5_laid_51 : decode cX5_laid 51 = .ok (.if_icmp .ge 174, 3) := by decide +kernel
theorem dX5_laid_54 : decode cX5_laid 54 = .ok (.aload_n 0, 1) := by decide +kernel
theorem dX5_laid_55 : decode cX5_laid 55 = .ok (.getfield 59, 3) := by decide +kernel
theorem dX5_laid_58 : decode cX5_laid 58 = .ok (.iconst 3, 1) := by decide +kernel
theorem dX5_laid_59 : decode cX5_laid 59 = .ok (.iload_n 1, 1) := by decide +kernel
theorem dX5_laid_60 : decode cX5_laid 60 = .ok (.imul, 1) := by decide +kernel
theorem dX5_laid_61 : decode cX5_laid 61 = .ok (.iload 4, 2) := by decide +kernel
theorem dX5_laid_63 : decode cX5_laid 63 = .ok (.iadd, 1) := by decide +kernel
theorem dX5_laid_64 : decode cX5_laid 64 = .ok (.baload, 1) := by decide +kernel
theorem dX5_laid_65 : decode cX5_laid 65 = .ok (.ifCond .eq 26, 3) := by decide +kernel
theorem dX5_laid_68 : decode cX5_laid 68 = .ok (.aload_n 0, 1) := by decide +kernel
theorem dX5_laid_69 : decode cX5_laid 69 = .ok (.getfield 69, 3) := by decide +kernel
theorem dX5_laid_72 : decode cX5_laid 72 = .ok (.aload_n 0, 1) := by decide +kernel
theorem dX5_laid_73 : decode cX5_laid 73 = .ok (.aload_n 0, 1) := by decide +kernel
theorem dX5_laid_74 : decode cX5_laid 74 = .ok (.getfield 56, 3) := by decide +kernel
theorem dX5_laid_77 : decode cX5_laid 77 = .ok (.iconst 3, 1) := by decide +kernel
theorem dX5_laid_78 : decode cX5_laid 78 = .ok (.iload_n 1, 1) := by decide +kernel
theorem dX5_laid_79 : decode cX5_laid 79 = .ok (.imul, 1) := by decide +kernel
theorem dX5_laid_80 : decode cX5_laid 80 = .ok (.iload 4, 2) := by decide +kernel
theorem dX5_laid_82 : decode cX5_laid 82 = .ok (.iadd, 1) := by decide +kernel
theorem dX5_laid_83 : decode cX5_laid 83 = .ok (.iaload, 1) := by decide +kernel
theorem dX5_laid_84 : decode cX5_laid 84 = .ok (.invokevirtual 184, 3) := by decide +kernel
theorem dX5_laid_87 : decode cX5_laid 87 = .ok (.iaload, 1) := by decide +kernel
theorem dX5_laid_88 : decode cX5_laid 88 = .ok (.goto 14, 3) := by decide +kernel
theorem dX5_laid_91 : decode cX5_laid 91 = .ok (.aload_n 0, 1) := by decide +kernel
theorem dX5_laid_92 : decode cX5_laid 92 = .ok (.getfield 56, 3) := by decide +kernel
theorem dX5_laid_95 : decode cX5_laid 95 = .ok (.iconst 3, 1) := by decide +kernel
theorem dX5_laid_96 : decode cX5_laid 96 = .ok (.iload_n 1, 1) := by decide +kernel
theorem dX5_laid_97 : decode cX5_laid 97 = .ok (.imul, 1) := by decide +kernel
theorem dX5_laid_98 : decode cX5_laid 98 = .ok (.iload 4, 2) := by decide +kernel
theorem dX5_laid_100 : decode cX5_laid 100 = .ok (.iadd, 1) := by decide +kernel
theorem dX5_laid_101 : decode cX5_laid 101 = .ok (.iaload, 1) := by decide +kernel
theorem dX5_laid_102 : decode cX5_laid 102 = .ok (.istore 5, 2) := by decide +kernel
theorem dX5_laid_104 : decode cX5_laid 104 = .ok (.aload_n 0, 1) := by decide +kernel
theorem dX5_laid_105 : decode cX5_laid 105 = .ok (.iload_n 2, 1) := by decide +kernel
theorem dX5_laid_106 : decode cX5_laid 106 = .ok (.iload 4, 2) := by decide +kernel
theorem dX5_laid_108 : decode cX5_laid 108 = .ok (.iload 5, 2) := by decide +kernel
theorem dX5_laid_110 : decode cX5_laid 110 = .ok (.iload_n 3, 1) := by decide +kernel
theorem dX5_laid_111 : decode cX5_laid 111 = .ok (.aload_n 0, 1) := by decide +kernel
theorem dX5_laid_112 : decode cX5_laid 112 = .ok (.getfield 17, 3) := by decide +kernel
theorem dX5_laid_115 : decode cX5_laid 115 = .ok (.iload_n 2, 1) := by decide +kernel
theorem dX5_laid_116 : decode cX5_laid 116 = .ok (.iaload, 1) := by decide +kernel
theorem dX5_laid_117 : decode cX5_laid 117 = .ok (.bipush 8, 2) := by decide +kernel
theorem dX5_laid_119 : decode cX5_laid 119 = .ok (.idiv, 1) := by decide +kernel
theorem dX5_laid_120 : decode cX5_laid 120 = .ok (.iadd, 1) := by decide +kernel
theorem dX5_laid_121 : decode cX5_laid 121 = .ok (.invokevirtual 187, 3) := by decide +kernel
theorem dX5_laid_124 : decode cX5_laid 124 = .ok (.istore 6, 2) := by decide +kernel
theorem dX5_laid_126 : decode cX5_laid 126 = .ok (.iload 6, 2) := by decide +kernel
theorem dX5_laid_128 : decode cX5_laid 128 = .ok (.ifCond .ge 5, 3) := by decide +kernel
theorem dX5_laid_131 : decode cX5_laid 131 = .ok (.iconst 0, 1) := by decide +kernel
theorem dX5_laid_132 : decode cX5_laid 132 = .ok (.ireturn, 1) := by decide +kernel
theorem dX5_laid_133 : decode cX5_laid 133 = .ok (.aload_n 0, 1) := by decide +kernel
theorem dX5_laid_134 : decode cX5_laid 134 = .ok (.getfield 26, 3) := by decide +kernel
theorem dX5_laid_137 : decode cX5_laid 137 = .ok (.iconst 3, 1) := by decide +kernel
theorem dX5_laid_138 : decode cX5_laid 138 = .ok (.iload_n 2, 1) := by decide +kernel
theorem dX5_laid_139 : decode cX5_laid 139 = .ok (.imul, 1) := by decide +kernel
theorem dX5_laid_140 : decode cX5_laid 140 = .ok (.iload 4, 2) := by decide +kernel
theorem dX5_laid_142 : decode cX5_laid 142 = .ok (.iadd, 1) := by decide +kernel
theorem dX5_laid_143 : decode cX5_laid 143 = .ok (.iaload, 1) := by decide +kernel
theorem dX5_laid_144 : decode cX5_laid 144 = .ok (.istore 7, 2) := by decide +kernel
theorem dX5_laid_146 : decode cX5_laid 146 = .ok (.iconst 0, 1) := by decide +kernel
theorem dX5_laid_147 : decode cX5_laid 147 = .ok (.istore 8, 2) := by decide +kernel
theorem dX5_laid_149 : decode cX5_laid 149 = .ok (.iload 8, 2) := by decide +kernel
theorem dX5_laid_151 : decode cX5_laid 151 = .ok (.aload_n 0, 1) := by decide +kernel
theorem dX5_laid_152 : decode cX5_laid 152 = .ok (.getfield 17, 3) := by decide +kernel
theorem dX5_laid_155 : decode cX5_laid 155 = .ok (.iload_n 2, 1) := by decide +kernel
theorem dX5_laid_156 : decode cX5_laid 156 = .ok (.iaload, 1) := by decide +kernel
theorem dX5_laid_157 : decode cX5_laid 157 = .ok (.if_icmp .ge 62, 3) := by decide +kernel
theorem dX5_laid_160 : decode cX5_laid 160 = .ok (.aload_n 0, 1) := by decide +kernel
theorem dX5_laid_161 : decode cX5_laid 161 = .ok (.getfield 20, 3) := by decide +kernel
theorem dX5_laid_164 : decode cX5_laid 164 = .ok (.bipush 24, 2) := by decide +kernel
theorem dX5_laid_166 : decode cX5_laid 166 = .ok (.iload_n 2, 1) := by decide +kernel
theorem dX5_laid_167 : decode cX5_laid 167 = .ok (.imul, 1) := by decide +kernel
theorem dX5_laid_168 : decode cX5_laid 168 = .ok (.iload 8, 2) := by decide +kernel
theorem dX5_laid_170 : decode cX5_laid 170 = .ok (.iadd, 1) := by decide +kernel
theorem dX5_laid_171 : decode cX5_laid 171 = .ok (.iaload, 1) := by decide +kernel
theorem dX5_laid_172 : decode cX5_laid 172 = .ok (.iconst 2, 1) := by decide +kernel
theorem dX5_laid_173 : decode cX5_laid 173 = .ok (.iload 4, 2) := by decide +kernel
theorem dX5_laid_175 : decode cX5_laid 175 = .ok (.iadd, 1) := by decide +kernel
theorem dX5_laid_176 : decode cX5_laid 176 = .ok (.if_icmp .ne 37, 3) := by decide +kernel
theorem dX5_laid_179 : decode cX5_laid 179 = .ok (.iinc 7 (-1), 3) := by decide +kernel
theorem dX5_laid_182 : decode cX5_laid 182 = .ok (.aload_n 0, 1) := by decide +kernel
theorem dX5_laid_183 : decode cX5_laid 183 = .ok (.getfield 72, 3) := by decide +kernel
theorem dX5_laid_186 : decode cX5_laid 186 = .ok (.iload_n 3, 1) := by decide +kernel
theorem dX5_laid_187 : decode cX5_laid 187 = .ok (.iload 8, 2) := by decide +kernel
theorem dX5_laid_189 : decode cX5_laid 189 = .ok (.bipush 8, 2) := by decide +kernel
theorem dX5_laid_191 : decode cX5_laid 191 = .ok (.idiv, 1) := by decide +kernel
theorem dX5_laid_192 : decode cX5_laid 192 = .ok (.iadd, 1) := by decide +kernel
theorem dX5_laid_193 : decode cX5_laid 193 = .ok (.dup2, 1) := by decide +kernel
theorem dX5_laid_194 : decode cX5_laid 194 = .ok (.iaload, 1) := by decide +kernel
theorem dX5_laid_195 : decode cX5_laid 195 = .ok (.iload 6, 2) := by decide +kernel
theorem dX5_laid_197 : decode cX5_laid 197 = .ok (.iload 7, 2) := by decide +kernel
theorem dX5_laid_199 : decode cX5_laid 199 = .ok (.ishr, 1) := by decide +kernel
theorem dX5_laid_200 : decode cX5_laid 200 = .ok (.iconst 1, 1) := by decide +kernel
theorem dX5_laid_201 : decode cX5_laid 201 = .ok (.iand, 1) := by decide +kernel
theorem dX5_laid_202 : decode cX5_laid 202 = .ok (.bipush 7, 2) := by decide +kernel
theorem dX5_laid_204 : decode cX5_laid 204 = .ok (.iload 8, 2) := by decide +kernel
theorem dX5_laid_206 : decode cX5_laid 206 = .ok (.bipush 8, 2) := by decide +kernel
theorem dX5_laid_208 : decode cX5_laid 208 = .ok (.irem, 1) := by decide +kernel
theorem dX5_laid_209 : decode cX5_laid 209 = .ok (.isub, 1) := by decide +kernel
theorem dX5_laid_210 : decode cX5_laid 210 = .ok (.ishl, 1) := by decide +kernel
theorem dX5_laid_211 : decode cX5_laid 211 = .ok (.ior, 1) := by decide +kernel
theorem dX5_laid_212 : decode cX5_laid 212 = .ok (.iastore, 1) := by decide +kernel
theorem dX5_laid_213 : decode cX5_laid 213 = .ok (.iinc 8 1, 3) := by decide +kernel
theorem dX5_laid_216 : decode cX5_laid 216 = .ok (.goto (-67), 3) := by decide +kernel
theorem dX5_laid_219 : decode cX5_laid 219 = .ok (.iinc 4 1, 3) := by decide +kernel
theorem dX5_laid_222 : decode cX5_laid 222 = .ok (.goto (-179), 3) := by decide +kernel
theorem dX5_laid_225 : decode cX5_laid 225 = .ok (.iconst 0, 1) := by decide +kernel
theorem dX5_laid_226 : decode cX5_laid 226 = .ok (.istore 4, 2) := by decide +kernel
theorem dX5_laid_228 : decode cX5_laid 228 = .ok (.iload 4, 2) := by decide +kernel
theorem dX5_laid_230 : decode cX5_laid 230 = .ok (.aload_n 0, 1) := by decide +kernel
theorem dX5_laid_231 : decode cX5_laid 231 = .ok (.getfield 17, 3) := by decide +kernel
theorem dX5_laid_234 : decode cX5_laid 234 = .ok (.iload_n 2, 1) := by decide +kernel
theorem dX5_laid_235 : decode cX5_laid 235 = .ok (.iaload, 1) := by decide +kernel
theorem dX5_laid_236 : decode cX5_laid 236 = .ok (.if_icmp .ge 49, 3) := by decide +kernel
theorem dX5_laid_239 : decode cX5_laid 239 = .ok (.aload_n 0, 1) := by decide +kernel
theorem dX5_laid_240 : decode cX5_laid 240 = .ok (.getfield 72, 3) := by decide +kernel
theorem dX5_laid_243 : decode cX5_laid 243 = .ok (.iload_n 3, 1) := by decide +kernel
theorem dX5_laid_244 : decode cX5_laid 244 = .ok (.iload 4, 2) := by decide +kernel
theorem dX5_laid_246 : decode cX5_laid 246 = .ok (.bipush 8, 2) := by decide +kernel
theorem dX5_laid_248 : decode cX5_laid 248 = .ok (.idiv, 1) := by decide +kernel
theorem dX5_laid_249 : decode cX5_laid 249 = .ok (.iadd, 1) := by decide +kernel
theorem dX5_laid_250 : decode cX5_laid 250 = .ok (.dup2, 1) := by decide +kernel
theorem dX5_laid_251 : decode cX5_laid 251 = .ok (.iaload, 1) := by decide +kernel
theorem dX5_laid_252 : decode cX5_laid 252 = .ok (.aload_n 0, 1) := by decide +kernel
theorem dX5_laid_253 : decode cX5_laid 253 = .ok (.iload_n 2, 1) := by decide +kernel
theorem dX5_laid_254 : decode cX5_laid 254 = .ok (.iload 4, 2) := by decide +kernel
theorem dX5_laid_256 : decode cX5_laid 256 = .ok (.invokevirtual 131, 3) := by decide +kernel
theorem dX5_laid_259 : decode cX5_laid 259 = .ok (.iconst 1, 1) := by decide +kernel
theorem dX5_laid_260 : decode cX5_laid 260 = .ok (.if_icmp .ne 16, 3) := by decide +kernel
theorem dX5_laid_263 : decode cX5_laid 263 = .ok (.iconst 1, 1) := by decide +kernel
theorem dX5_laid_264 : decode cX5_laid 264 = .ok (.bipush 7, 2) := by decide +kernel
theorem dX5_laid_266 : decode cX5_laid 266 = .ok (.iload 4, 2) := by decide +kernel
theorem dX5_laid_268 : decode cX5_laid 268 = .ok (.bipush 8, 2) := by decide +kernel
theorem dX5_laid_270 : decode cX5_laid 270 = .ok (.irem, 1) := by decide +kernel
theorem dX5_laid_271 : decode cX5_laid 271 = .ok (.isub, 1) := by decide +kernel
theorem dX5_laid_272 : decode cX5_laid 272 = .ok (.ishl, 1) := by decide +kernel
theorem dX5_laid_273 : decode cX5_laid 273 = .ok (.goto 4, 3) := by decide +kernel
theorem dX5_laid_276 : decode cX5_laid 276 = .ok (.iconst 0, 1) := by decide +kernel
theorem dX5_laid_277 : decode cX5_laid 277 = .ok (.ior, 1) := by decide +kernel
theorem dX5_laid_278 : decode cX5_laid 278 = .ok (.iastore, 1) := by decide +kernel
theorem dX5_laid_279 : decode cX5_laid 279 = .ok (.iinc 4 1, 3) := by decide +kernel
theorem dX5_laid_282 : decode cX5_laid 282 = .ok (.goto (-54), 3) := by decide +kernel
theorem dX5_laid_285 : decode cX5_laid 285 = .ok (.iconst 1, 1) := by decide +kernel
theorem dX5_laid_286 : decode cX5_laid 286 = .ok (.ireturn, 1) := by decide +kernel
theorem dX5_assemble_0 : decode cX5_assemble 0 = .ok (.aload_n 0, 1) := by decide +kernel
theorem dX5_assemble_1 : decode cX5_assemble 1 = .ok (.aload_n 0, 1) := by decide +kernel
theorem dX5_assemble_2 : decode cX5_assemble 2 = .ok (.getfield 124, 3) := by decide +kernel
theorem dX5_assemble_5 : decode cX5_assemble 5 = .ok (.ifCond .eq 7, 3) := by decide +kernel
theorem dX5_assemble_8 : decode cX5_assemble 8 = .ok (.iconst 0, 1) := by decide +kernel
theorem dX5_assemble_9 : decode cX5_assemble 9 = .ok (.goto 4, 3) := by decide +kernel
theorem dX5_assemble_12 : decode cX5_assemble 12 = .ok (.iconst 1, 1) := by decide +kernel
theorem dX5_assemble_13 : decode cX5_assemble 13 = .ok (.putfield 82, 3) := by decide +kernel
theorem dX5_assemble_16 : decode cX5_assemble 16 = .ok (.aload_n 0, 1) := by decide +kernel
theorem dX5_assemble_17 : decode cX5_assemble 17 = .ok (.getfield 82, 3) := by decide +kernel
theorem dX5_assemble_20 : decode cX5_assemble 20 = .ok (.ifCond .eq 5, 3) := by decide +kernel
theorem dX5_assemble_23 : decode cX5_assemble 23 = .ok (.iconst 0, 1) := by decide +kernel
theorem dX5_assemble_24 : decode cX5_assemble 24 = .ok (.ireturn, 1) := by decide +kernel
theorem dX5_assemble_25 : decode cX5_assemble 25 = .ok (.aload_n 0, 1) := by decide +kernel
theorem dX5_assemble_26 : decode cX5_assemble 26 = .ok (.invokevirtual 191, 3) := by decide +kernel
theorem dX5_assemble_29 : decode cX5_assemble 29 = .ok (.istore_n 2, 1) := by decide +kernel
theorem dX5_assemble_30 : decode cX5_assemble 30 = .ok (.iload_n 2, 1) := by decide +kernel
theorem dX5_assemble_31 : decode cX5_assemble 31 = .ok (.ifCond .lt 15, 3) := by decide +kernel
theorem dX5_assemble_34 : decode cX5_assemble 34 = .ok (.aload_n 0, 1) := by decide +kernel
theorem dX5_assemble_35 : decode cX5_assemble 35 = .ok (.iload_n 2, 1) := by decide +kernel
theorem dX5_assemble_36 : decode cX5_assemble 36 = .ok (.putfield 75, 3) := by decide +kernel
theorem dX5_assemble_39 : decode cX5_assemble 39 = .ok (.aload_n 0, 1) := by decide +kernel
theorem dX5_assemble_40 : decode cX5_assemble 40 = .ok (.iconst 2, 1) := by decide +kernel
theorem dX5_assemble_41 : decode cX5_assemble 41 = .ok (.putfield 82, 3) := by decide +kernel
theorem dX5_assemble_44 : decode cX5_assemble 44 = .ok (.iconst 0, 1) := by decide +kernel
theorem dX5_assemble_45 : decode cX5_assemble 45 = .ok (.ireturn, 1) := by decide +kernel
theorem dX5_assemble_46 : decode cX5_assemble 46 = .ok (.iconst 0, 1) := by decide +kernel
theorem dX5_assemble_47 : decode cX5_assemble 47 = .ok (.istore_n 3, 1) := by decide +kernel
theorem dX5_assemble_48 : decode cX5_assemble 48 = .ok (.iconst 0, 1) := by decide +kernel
theorem dX5_assemble_49 : decode cX5_assemble 49 = .ok (.istore 4, 2) := by decide +kernel
theorem dX5_assemble_51 : decode cX5_assemble 51 = .ok (.iload 4, 2) := by decide +kernel
theorem dX5_assemble_53 : decode cX5_assemble 53 = .ok (.aload_n 0, 1) := by decide +kernel
theorem dX5_assemble_54 : decode cX5_assemble 54 = .ok (.getfield 181, 3) := by decide +kernel
theorem dX5_assemble_57 : decode cX5_assemble 57 = .ok (.if_icmp .ge 60, 3) := by decide +kernel
theorem dX5_assemble_60 : decode cX5_assemble 60 = .ok (.aload_n 0, 1) := by decide +kernel
theorem dX5_assemble_61 : decode cX5_assemble 61 = .ok (.getfield 69, 3) := by decide +kernel
theorem dX5_assemble_64 : decode cX5_assemble 64 = .ok (.iload 4, 2) := by decide +kernel
theorem dX5_assemble_66 : decode cX5_assemble 66 = .ok (.iload_n 3, 1) := by decide +kernel
theorem dX5_assemble_67 : decode cX5_assemble 67 = .ok (.iastore, 1) := by decide +kernel
theorem dX5_assemble_68 : decode cX5_assemble 68 = .ok (.iload_n 3, 1) := by decide +kernel
theorem dX5_assemble_69 : decode cX5_assemble 69 = .ok (.aload_n 0, 1) := by decide +kernel
theorem dX5_assemble_70 : decode cX5_assemble 70 = .ok (.getfield 50, 3) := by decide +kernel
theorem dX5_assemble_73 : decode cX5_assemble 73 = .ok (.iload 4, 2) := by decide +kernel
theorem dX5_assemble_75 : decode cX5_assemble 75 = .ok (.iaload, 1) := by decide +kernel
theorem dX5_assemble_76 : decode cX5_assemble 76 = .ok (.ifCond .le 32, 3) := by decide +kernel
theorem dX5_assemble_79 : decode cX5_assemble 79 = .ok (.aload_n 0, 1) := by decide +kernel
theorem dX5_assemble_80 : decode cX5_assemble 80 = .ok (.getfield 17, 3) := by decide +kernel
theorem dX5_assemble_83 : decode cX5_assemble 83 = .ok (.aload_n 0, 1) := by decide +kernel
theorem dX5_assemble_84 : decode cX5_assemble 84 = .ok (.aload_n 0, 1) := by decide +kernel
theorem dX5_assemble_85 : decode cX5_assemble 85 = .ok (.getfield 50, 3) := by decide +kernel
theorem dX5_assemble_88 : decode cX5_assemble 88 = .ok (.iload 4, 2) := by decide +kernel
theorem dX5_assemble_90 : decode cX5_assemble 90 = .ok (.iaload, 1) := by decide +kernel
theorem dX5_assemble_91 : decode cX5_assemble 91 = .ok (.aload_n 0, 1) := by decide +kernel
theorem dX5_assemble_92 : decode cX5_assemble 92 = .ok (.getfield 53, 3) := by decide +kernel
theorem dX5_assemble_95 : decode cX5_assemble 95 = .ok (.iload 4, 2) := by decide +kernel
theorem dX5_assemble_97 : decode cX5_assemble 97 = .ok (.iaload, 1) := by decide +kernel
theorem dX5_assemble_98 : decode cX5_assemble 98 = .ok (.invokevirtual 120, 3) := by decide +kernel
theorem dX5_assemble_101 : decode cX5_assemble 101 = .ok (.iaload, 1) := by decide +kernel
theorem dX5_assemble_102 : decode cX5_assemble 102 = .ok (.bipush 8, 2) := by decide +kernel
theorem dX5_assemble_104 : decode cX5_assemble 104 = .ok (.idiv, 1) := by decide +kernel
theorem dX5_assemble_105 : decode cX5_assemble 105 = .ok (.goto 4, 3) := by decide +kernel
theorem dX5_assemble_108 : decode cX5_assemble 108 = .ok (.iconst 0, 1) := by decide +kernel
theorem dX5_assemble_109 : decode cX5_assemble 109 = .ok (.iadd, 1) := by decide +kernel
theorem dX5_assemble_110 : decode cX5_assemble 110 = .ok (.istore_n 3, 1) := by decide +kernel
theorem dX5_assemble_111 : decode cX5_assemble 111 = .ok (.iinc 4 1, 3) := by decide +kernel
theorem dX5_assemble_114 : decode cX5_assemble 114 = .ok (.goto (-63), 3) := by decide +kernel
theorem dX5_assemble_117 : decode cX5_assemble 117 = .ok (.aload_n 0, 1) := by decide +kernel
theorem dX5_assemble_118 : decode cX5_assemble 118 = .ok (.iload_n 1, 1) := by decide +kernel
theorem dX5_assemble_119 : decode cX5_assemble 119 = .ok (.iconst 0, 1) := by decide +kernel
theorem dX5_assemble_120 : decode cX5_assemble 120 = .ok (.bipush 63, 2) := by decide +kernel
theorem dX5_assemble_122 : decode cX5_assemble 122 = .ok (.invokestatic 127, 3) := by decide +kernel
theorem dX5_assemble_125 : decode cX5_assemble 125 = .ok (.ifCond .ne 11, 3) := by decide +kernel
theorem dX5_assemble_128 : decode cX5_assemble 128 = .ok (.iload_n 1, 1) := by decide +kernel
theorem dX5_assemble_129 : decode cX5_assemble 129 = .ok (.iload_n 3, 1) := by decide +kernel
theorem dX5_assemble_130 : decode cX5_assemble 130 = .ok (.iadd, 1) := by decide +kernel
theorem dX5_assemble_131 : decode cX5_assemble 131 = .ok (.bipush 64, 2) := by decide +kernel
theorem dX5_assemble_133 : decode cX5_assemble 133 = .ok (.if_icmp .le 7, 3) := by decide +kernel
theorem dX5_assemble_136 : decode cX5_assemble 136 = .ok (.iconst 3, 1) := by decide +kernel
theorem dX5_assemble_137 : decode cX5_assemble 137 = .ok (.goto 4, 3) := by decide +kernel
theorem dX5_assemble_140 : decode cX5_assemble 140 = .ok (.iconst 0, 1) := by decide +kernel
theorem dX5_assemble_141 : decode cX5_assemble 141 = .ok (.putfield 82, 3) := by decide +kernel
theorem dX5_assemble_144 : decode cX5_assemble 144 = .ok (.aload_n 0, 1) := by decide +kernel
theorem dX5_assemble_145 : decode cX5_assemble 145 = .ok (.getfield 82, 3) := by decide +kernel
theorem dX5_assemble_148 : decode cX5_assemble 148 = .ok (.ifCond .eq 5, 3) := by decide +kernel
theorem dX5_assemble_151 : decode cX5_assemble 151 = .ok (.iconst 0, 1) := by decide +kernel
theorem dX5_assemble_152 : decode cX5_assemble 152 = .ok (.ireturn, 1) := by decide +kernel
theorem dX5_assemble_153 : decode cX5_assemble 153 = .ok (.iconst 0, 1) := by decide +kernel
theorem dX5_assemble_154 : decode cX5_assemble 154 = .ok (.istore 4, 2) := by decide +kernel
theorem dX5_assemble_156 : decode cX5_assemble 156 = .ok (.iload 4, 2) := by decide +kernel
theorem dX5_assemble_158 : decode cX5_assemble 158 = .ok (.aload_n 0, 1) := by decide +kernel
theorem dX5_assemble_159 : decode cX5_assemble 159 = .ok (.getfield 181, 3) := by decide +kernel
theorem dX5_assemble_162 : decode cX5_assemble 162 = .ok (.if_icmp .ge 20, 3) := by decide +kernel
theorem dX5_assemble_165 : decode cX5_assemble 165 = .ok (.aload_n 0, 1) := by decide +kernel
theorem dX5_assemble_166 : decode cX5_assemble 166 = .ok (.getfield 69, 3) := by decide +kernel
theorem dX5_assemble_169 : decode cX5_assemble 169 = .ok (.iload 4, 2) := by decide +kernel
theorem dX5_assemble_171 : decode cX5_assemble 171 = .ok (.dup2, 1) := by decide +kernel
theorem dX5_assemble_172 : decode cX5_assemble 172 = .ok (.iaload, 1) := by decide +kernel
theorem dX5_assemble_173 : decode cX5_assemble 173 = .ok (.iload_n 1, 1) := by decide +kernel
theorem dX5_assemble_174 : decode cX5_assemble 174 = .ok (.iadd, 1) := by decide +kernel
theorem dX5_assemble_175 : decode cX5_assemble 175 = .ok (.iastore, 1) := by decide +kernel
theorem dX5_assemble_176 : decode cX5_assemble 176 = .ok (.iinc 4 1, 3) := by decide +kernel
theorem dX5_assemble_179 : decode cX5_assemble 179 = .ok (.goto (-23), 3) := by decide +kernel
theorem dX5_assemble_182 : decode cX5_assemble 182 = .ok (.iconst 0, 1) := by decide +kernel
theorem dX5_assemble_183 : decode cX5_assemble 183 = .ok (.istore 4, 2) := by decide +kernel
theorem dX5_assemble_185 : decode cX5_assemble 185 = .ok (.iload 4, 2) := by decide +kernel
theorem dX5_assemble_187 : decode cX5_assemble 187 = .ok (.aload_n 0, 1) := by decide +kernel
theorem dX5_assemble_188 : decode cX5_assemble 188 = .ok (.getfield 181, 3) := by decide +kernel
theorem dX5_assemble_191 : decode cX5_assemble 191 = .ok (.if_icmp .ge 59, 3) := by decide +kernel
theorem dX5_assemble_194 : decode cX5_assemble 194 = .ok (.aload_n 0, 1) := by decide +kernel
theorem dX5_assemble_195 : decode cX5_assemble 195 = .ok (.getfield 50, 3) := by decide +kernel
theorem dX5_assemble_198 : decode cX5_assemble 198 = .ok (.iload 4, 2) := by decide +kernel
theorem dX5_assemble_200 : decode cX5_assemble 200 = .ok (.iaload, 1) := by decide +kernel
theorem dX5_assemble_201 : decode cX5_assemble 201 = .ok (.ifCond .le 43, 3) := by decide +kernel
theorem dX5_assemble_204 : decode cX5_assemble 204 = .ok (.aload_n 0, 1) := by decide +kernel
theorem dX5_assemble_205 : decode cX5_assemble 205 = .ok (.iload 4, 2) := by decide +kernel
theorem dX5_assemble_207 : decode cX5_assemble 207 = .ok (.aload_n 0, 1) := by decide +kernel
theorem dX5_assemble_208 : decode cX5_assemble 208 = .ok (.aload_n 0, 1) := by decide +kernel
theorem dX5_assemble_209 : decode cX5_assemble 209 = .ok (.getfield 50, 3) := by decide +kernel
theorem dX5_assemble_212 : decode cX5_assemble 212 = .ok (.iload 4, 2) := by decide +kernel
theorem dX5_assemble_214 : decode cX5_assemble 214 = .ok (.iaload, 1) := by decide +kernel
theorem dX5_assemble_215 : decode cX5_assemble 215 = .ok (.aload_n 0, 1) := by decide +kernel
theorem dX5_assemble_216 : decode cX5_assemble 216 = .ok (.getfield 53, 3) := by decide +kernel
theorem dX5_assemble_219 : decode cX5_assemble 219 = .ok (.iload 4, 2) := by decide +kernel
theorem dX5_assemble_221 : decode cX5_assemble 221 = .ok (.iaload, 1) := by decide +kernel
theorem dX5_assemble_222 : decode cX5_assemble 222 = .ok (.invokevirtual 120, 3) := by decide +kernel
theorem dX5_assemble_225 : decode cX5_assemble 225 = .ok (.invokevirtual 194, 3) := by decide +kernel
theorem dX5_assemble_228 : decode cX5_assemble 228 = .ok (.ifCond .ne 16, 3) := by decide +kernel
theorem dX5_assemble_231 : decode cX5_assemble 231 = .ok (.aload_n 0, 1) := by decide +kernel
theorem dX5_assemble_232 : decode cX5_assemble 232 = .ok (.iload 4, 2) := by decide +kernel
theorem dX5_assemble_234 : decode cX5_assemble 234 = .ok (.putfield 75, 3) := by decide +kernel
theorem dX5_assemble_237 : decode cX5_assemble 237 = .ok (.aload_n 0, 1) := by decide +kernel
theorem dX5_assemble_238 : decode cX5_assemble 238 = .ok (.iconst 4, 1) := by decide +kernel
theorem dX5_assemble_239 : decode cX5_assemble 239 = .ok (.putfield 82, 3) := by decide +kernel
theorem dX5_assemble_242 : decode cX5_assemble 242 = .ok (.iconst 0, 1) := by decide +kernel
theorem dX5_assemble_243 : decode cX5_assemble 243 = .ok (.ireturn, 1) := by decide +kernel
theorem dX5_assemble_244 : decode cX5_assemble 244 = .ok (.iinc 4 1, 3) := by decide +kernel
theorem dX5_assemble_247 : decode cX5_assemble 247 = .ok (.goto (-62), 3) := by decide +kernel
theorem dX5_assemble_250 : decode cX5_assemble 250 = .ok (.iload_n 1, 1) := by decide +kernel
theorem dX5_assemble_251 : decode cX5_assemble 251 = .ok (.istore 4, 2) := by decide +kernel
theorem dX5_assemble_253 : decode cX5_assemble 253 = .ok (.iload 4, 2) := by decide +kernel
theorem dX5_assemble_255 : decode cX5_assemble 255 = .ok (.iload_n 1, 1) := by decide +kernel
theorem dX5_assemble_256 : decode cX5_assemble 256 = .ok (.iload_n 3, 1) := by decide +kernel
theorem dX5_assemble_257 : decode cX5_assemble 257 = .ok (.iadd, 1) := by decide +kernel
theorem dX5_assemble_258 : decode cX5_assemble 258 = .ok (.if_icmp .ge 23, 3) := by decide +kernel
theorem dX5_assemble_261 : decode cX5_assemble 261 = .ok (.aload_n 0, 1) := by decide +kernel
theorem dX5_assemble_262 : decode cX5_assemble 262 = .ok (.getfield 44, 3) := by decide +kernel
theorem dX5_assemble_265 : decode cX5_assemble 265 = .ok (.iload 4, 2) := by decide +kernel
theorem dX5_assemble_267 : decode cX5_assemble 267 = .ok (.aload_n 0, 1) := by decide +kernel
theorem dX5_assemble_268 : decode cX5_assemble 268 = .ok (.getfield 72, 3) := by decide +kernel
theorem dX5_assemble_271 : decode cX5_assemble 271 = .ok (.iload 4, 2) := by decide +kernel
theorem dX5_assemble_273 : decode cX5_assemble 273 = .ok (.iaload, 1) := by decide +kernel
theorem dX5_assemble_274 : decode cX5_assemble 274 = .ok (.iastore, 1) := by decide +kernel
theorem dX5_assemble_275 : decode cX5_assemble 275 = .ok (.iinc 4 1, 3) := by decide +kernel
theorem dX5_assemble_278 : decode cX5_assemble 278 = .ok (.goto (-25), 3) := by decide +kernel
theorem dX5_assemble_281 : decode cX5_assemble 281 = .ok (.iload_n 3, 1) := by decide +kernel
theorem dX5_assemble_282 : decode cX5_assemble 282 = .ok (.ireturn, 1) := by decide +kernel
theorem dX5_fault_0 : decode cX5_fault 0 = .ok (.aload_n 0, 1) := by decide +kernel
theorem dX5_fault_1 : decode cX5_fault 1 = .ok (.iconst 0, 1) := by decide +kernel
theorem dX5_fault_2 : decode cX5_fault 2 = .ok (.putfield 82, 3) := by decide +kernel
theorem dX5_fault_5 : decode cX5_fault 5 = .ok (.aload_n 0, 1) := by decide +kernel
theorem dX5_fault_6 : decode cX5_fault 6 = .ok (.getfield 75, 3) := by decide +kernel
theorem dX5_fault_9 : decode cX5_fault 9 = .ok (.ireturn, 1) := by decide +kernel
theorem dX5_count_0 : decode cX5_count 0 = .ok (.aload_n 0, 1) := by decide +kernel
theorem dX5_count_1 : decode cX5_count 1 = .ok (.iconst 0, 1) := by decide +kernel
theorem dX5_count_2 : decode cX5_count 2 = .ok (.putfield 82, 3) := by decide +kernel
theorem dX5_count_5 : decode cX5_count 5 = .ok (.iload_n 1, 1) := by decide +kernel
theorem dX5_count_6 : decode cX5_count 6 = .ok (.ifCond .ne 10, 3) := by decide +kernel
theorem dX5_count_9 : decode cX5_count 9 = .ok (.aload_n 0, 1) := by decide +kernel
theorem dX5_count_10 : decode cX5_count 10 = .ok (.getfield 107, 3) := by decide +kernel
theorem dX5_count_13 : decode cX5_count 13 = .ok (.goto 48, 3) := by decide +kernel
theorem dX5_count_16 : decode cX5_count 16 = .ok (.iload_n 1, 1) := by decide +kernel
theorem dX5_count_17 : decode cX5_count 17 = .ok (.iconst 1, 1) := by decide +kernel
theorem dX5_count_18 : decode cX5_count 18 = .ok (.if_icmp .ne 10, 3) := by decide +kernel
theorem dX5_count_21 : decode cX5_count 21 = .ok (.aload_n 0, 1) := by decide +kernel
theorem dX5_count_22 : decode cX5_count 22 = .ok (.getfield 181, 3) := by decide +kernel
theorem dX5_count_25 : decode cX5_count 25 = .ok (.goto 36, 3) := by decide +kernel
theorem dX5_count_28 : decode cX5_count 28 = .ok (.iload_n 1, 1) := by decide +kernel
theorem dX5_count_29 : decode cX5_count 29 = .ok (.iconst 2, 1) := by decide +kernel
theorem dX5_count_30 : decode cX5_count 30 = .ok (.if_icmp .ne 18, 3) := by decide +kernel
theorem dX5_count_33 : decode cX5_count 33 = .ok (.aload_n 0, 1) := by decide +kernel
theorem dX5_count_34 : decode cX5_count 34 = .ok (.getfield 124, 3) := by decide +kernel
theorem dX5_count_37 : decode cX5_count 37 = .ok (.ifCond .eq 7, 3) := by decide +kernel
theorem dX5_count_40 : decode cX5_count 40 = .ok (.iconst 1, 1) := by decide +kernel
theorem dX5_count_41 : decode cX5_count 41 = .ok (.goto 20, 3) := by decide +kernel
theorem dX5_count_44 : decode cX5_count 44 = .ok (.iconst 0, 1) := by decide +kernel
theorem dX5_count_45 : decode cX5_count 45 = .ok (.goto 16, 3) := by decide +kernel
theorem dX5_count_48 : decode cX5_count 48 = .ok (.iload_n 1, 1) := by decide +kernel
theorem dX5_count_49 : decode cX5_count 49 = .ok (.iconst 3, 1) := by decide +kernel
theorem dX5_count_50 : decode cX5_count 50 = .ok (.if_icmp .ne 10, 3) := by decide +kernel
theorem dX5_count_53 : decode cX5_count 53 = .ok (.aload_n 0, 1) := by decide +kernel
theorem dX5_count_54 : decode cX5_count 54 = .ok (.getfield 85, 3) := by decide +kernel
theorem dX5_count_57 : decode cX5_count 57 = .ok (.goto 4, 3) := by decide +kernel
theorem dX5_count_60 : decode cX5_count 60 = .ok (.iconst (-1), 1) := by decide +kernel
theorem dX5_count_61 : decode cX5_count 61 = .ok (.ireturn, 1) := by decide +kernel
end
section
theorem dL_form_0 : decode cL_form 0 = .ok (.aload_n 1, 1) := by decide +kernel
theorem dL_form_1 : decode cL_form 1 = .ok (.iconst 0, 1) := by decide +kernel
theorem dL_form_2 : decode cL_form 2 = .ok (.aload_n 0, 1) := by decide +kernel
theorem dL_form_3 : decode cL_form 3 = .ok (.invokevirtual 7, 3) := by decide +kernel
theorem dL_form_6 : decode cL_form 6 = .ok (.i2l, 1) := by decide +kernel
theorem dL_form_7 : decode cL_form 7 = .ok (.lastore, 1) := by decide +kernel
theorem dL_form_8 : decode cL_form 8 = .ok (.goto 9, 3) := by decide +kernel
theorem dL_form_11 : decode cL_form 11 = .ok (.astore_n 2, 1) := by decide +kernel
theorem dL_form_12 : decode cL_form 12 = .ok (.iconst 1, 1) := by decide +kernel
theorem dL_form_13 : decode cL_form 13 = .ok (.ireturn, 1) := by decide +kernel
theorem dL_form_14 : decode cL_form 14 = .ok (.astore_n 2, 1) := by decide +kernel
theorem dL_form_15 : decode cL_form 15 = .ok (.iconst 2, 1) := by decide +kernel
theorem dL_form_16 : decode cL_form 16 = .ok (.ireturn, 1) := by decide +kernel
theorem dL_form_17 : decode cL_form 17 = .ok (.iconst 0, 1) := by decide +kernel
theorem dL_form_18 : decode cL_form 18 = .ok (.ireturn, 1) := by decide +kernel
theorem dL_operand_0 : decode cL_operand 0 = .ok (.aload 6, 2) := by decide +kernel
theorem dL_operand_2 : decode cL_operand 2 = .ok (.iconst 0, 1) := by decide +kernel
theorem dL_operand_3 : decode cL_operand 3 = .ok (.aload_n 0, 1) := by decide +kernel
theorem dL_operand_4 : decode cL_operand 4 = .ok (.iload_n 1, 1) := by decide +kernel
theorem dL_operand_5 : decode cL_operand 5 = .ok (.iload_n 2, 1) := by decide +kernel
theorem dL_operand_6 : decode cL_operand 6 = .ok (.iload_n 3, 1) := by decide +kernel
theorem dL_operand_7 : decode cL_operand 7 = .ok (.iload 4, 2) := by decide +kernel
theorem dL_operand_9 : decode cL_operand 9 = .ok (.iload 5, 2) := by decide +kernel
theorem dL_operand_11 : decode cL_operand 11 = .ok (.invokevirtual 17, 3) := by decide +kernel
theorem dL_operand_14 : decode cL_operand 14 = .ok (.i2l, 1) := by decide +kernel
theorem dL_operand_15 : decode cL_operand 15 = .ok (.lastore, 1) := by decide +kernel
theorem dL_operand_16 : decode cL_operand 16 = .ok (.goto 7, 3) := by decide +kernel
theorem dL_operand_19 : decode cL_operand 19 = .ok (.astore 7, 2) := by decide +kernel
theorem dL_operand_21 : decode cL_operand 21 = .ok (.iconst 1, 1) := by decide +kernel
theorem dL_operand_22 : decode cL_operand 22 = .ok (.ireturn, 1) := by decide +kernel
theorem dL_operand_23 : decode cL_operand 23 = .ok (.iconst 0, 1) := by decide +kernel
theorem dL_operand_24 : decode cL_operand 24 = .ok (.ireturn, 1) := by decide +kernel
theorem dL_poke_0 : decode cL_poke 0 = .ok (.aload_n 3, 1) := by decide +kernel
theorem dL_poke_1 : decode cL_poke 1 = .ok (.iconst 0, 1) := by decide +kernel
theorem dL_poke_2 : decode cL_poke 2 = .ok (.aload_n 0, 1) := by decide +kernel
theorem dL_poke_3 : decode cL_poke 3 = .ok (.iload_n 1, 1) := by decide +kernel
theorem dL_poke_4 : decode cL_poke 4 = .ok (.iload_n 2, 1) := by decide +kernel
theorem dL_poke_5 : decode cL_poke 5 = .ok (.invokevirtual 21, 3) := by decide +kernel
theorem dL_poke_8 : decode cL_poke 8 = .ok (.i2l, 1) := by decide +kernel
theorem dL_poke_9 : decode cL_poke 9 = .ok (.lastore, 1) := by decide +kernel
theorem dL_poke_10 : decode cL_poke 10 = .ok (.goto 7, 3) := by decide +kernel
theorem dL_poke_13 : decode cL_poke 13 = .ok (.astore 4, 2) := by decide +kernel
theorem dL_poke_15 : decode cL_poke 15 = .ok (.iconst 1, 1) := by decide +kernel
theorem dL_poke_16 : decode cL_poke 16 = .ok (.ireturn, 1) := by decide +kernel
theorem dL_poke_17 : decode cL_poke 17 = .ok (.iconst 0, 1) := by decide +kernel
theorem dL_poke_18 : decode cL_poke 18 = .ok (.ireturn, 1) := by decide +kernel
theorem dL_peek_0 : decode cL_peek 0 = .ok (.aload_n 2, 1) := by decide +kernel
theorem dL_peek_1 : decode cL_peek 1 = .ok (.iconst 0, 1) := by decide +kernel
theorem dL_peek_2 : decode cL_peek 2 = .ok (.aload_n 0, 1) := by decide +kernel
theorem dL_peek_3 : decode cL_peek 3 = .ok (.iload_n 1, 1) := by decide +kernel
theorem dL_peek_4 : decode cL_peek 4 = .ok (.invokevirtual 27, 3) := by decide +kernel
theorem dL_peek_7 : decode cL_peek 7 = .ok (.i2l, 1) := by decide +kernel
theorem dL_peek_8 : decode cL_peek 8 = .ok (.lastore, 1) := by decide +kernel
theorem dL_peek_9 : decode cL_peek 9 = .ok (.goto 6, 3) := by decide +kernel
theorem dL_peek_12 : decode cL_peek 12 = .ok (.astore_n 3, 1) := by decide +kernel
theorem dL_peek_13 : decode cL_peek 13 = .ok (.iconst 1, 1) := by decide +kernel
theorem dL_peek_14 : decode cL_peek 14 = .ok (.ireturn, 1) := by decide +kernel
theorem dL_peek_15 : decode cL_peek 15 = .ok (.iconst 0, 1) := by decide +kernel
theorem dL_peek_16 : decode cL_peek 16 = .ok (.ireturn, 1) := by decide +kernel
theorem dL_decode_0 : decode cL_decode 0 = .ok (.aload_n 2, 1) := by decide +kernel
theorem dL_decode_1 : decode cL_decode 1 = .ok (.iconst 0, 1) := by decide +kernel
theorem dL_decode_2 : decode cL_decode 2 = .ok (.aload_n 0, 1) := by decide +kernel
theorem dL_decode_3 : decode cL_decode 3 = .ok (.iload_n 1, 1) := by decide +kernel
theorem dL_decode_4 : decode cL_decode 4 = .ok (.invokevirtual 31, 3) := by decide +kernel
theorem dL_decode_7 : decode cL_decode 7 = .ok (.i2l, 1) := by decide +kernel
theorem dL_decode_8 : decode cL_decode 8 = .ok (.lastore, 1) := by decide +kernel
theorem dL_decode_9 : decode cL_decode 9 = .ok (.goto 9, 3) := by decide +kernel
theorem dL_decode_12 : decode cL_decode 12 = .ok (.astore_n 3, 1) := by decide +kernel
theorem dL_decode_13 : decode cL_decode 13 = .ok (.iconst 1, 1) := by decide +kernel
theorem dL_decode_14 : decode cL_decode 14 = .ok (.ireturn, 1) := by decide +kernel
theorem dL_decode_15 : decode cL_decode 15 = .ok (.astore_n 3, 1) := by decide +kernel
theorem dL_decode_16 : decode cL_decode 16 = .ok (.iconst 2, 1) := by decide +kernel
theorem dL_decode_17 : decode cL_decode 17 = .ok (.ireturn, 1) := by decide +kernel
theorem dL_decode_18 : decode cL_decode 18 = .ok (.iconst 0, 1) := by decide +kernel
theorem dL_decode_19 : decode cL_decode 19 = .ok (.ireturn, 1) := by decide +kernel
theorem dL_value_0 : decode cL_value 0 = .ok (.aload_n 3, 1) := by decide +kernel
theorem dL_value_1 : decode cL_value 1 = .ok (.iconst 0, 1) := by decide +kernel
theorem dL_value_2 : decode cL_value 2 = .ok (.aload_n 0, 1) := by decide +kernel
theorem dL_value_3 : decode cL_value 3 = .ok (.iload_n 1, 1) := by decide +kernel
theorem dL_value_4 : decode cL_value 4 = .ok (.iload_n 2, 1) := by decide +kernel
theorem dL_value_5 : decode cL_value 5 = .ok (.invokevirtual 34, 3) := by decide +kernel
theorem dL_value_8 : decode cL_value 8 = .ok (.i2l, 1) := by decide +kernel
theorem dL_value_9 : decode cL_value 9 = .ok (.lastore, 1) := by decide +kernel
theorem dL_value_10 : decode cL_value 10 = .ok (.goto 11, 3) := by decide +kernel
theorem dL_value_13 : decode cL_value 13 = .ok (.astore 4, 2) := by decide +kernel
theorem dL_value_15 : decode cL_value 15 = .ok (.iconst 1, 1) := by decide +kernel
theorem dL_value_16 : decode cL_value 16 = .ok (.ireturn, 1) := by decide +kernel
theorem dL_value_17 : decode cL_value 17 = .ok (.astore 4, 2) := by decide +kernel
theorem dL_value_19 : decode cL_value 19 = .ok (.iconst 2, 1) := by decide +kernel
theorem dL_value_20 : decode cL_value 20 = .ok (.ireturn, 1) := by decide +kernel
theorem dL_value_21 : decode cL_value 21 = .ok (.iconst 0, 1) := by decide +kernel
theorem dL_value_22 : decode cL_value 22 = .ok (.ireturn, 1) := by decide +kernel
theorem dL_write_0 : decode cL_write 0 = .ok (.aload_n 2, 1) := by decide +kernel
theorem dL_write_1 : decode cL_write 1 = .ok (.iconst 0, 1) := by decide +kernel
theorem dL_write_2 : decode cL_write 2 = .ok (.aload_n 0, 1) := by decide +kernel
theorem dL_write_3 : decode cL_write 3 = .ok (.iload_n 1, 1) := by decide +kernel
theorem dL_write_4 : decode cL_write 4 = .ok (.invokevirtual 37, 3) := by decide +kernel
theorem dL_write_7 : decode cL_write 7 = .ok (.i2l, 1) := by decide +kernel
theorem dL_write_8 : decode cL_write 8 = .ok (.lastore, 1) := by decide +kernel
theorem dL_write_9 : decode cL_write 9 = .ok (.goto 9, 3) := by decide +kernel
theorem dL_write_12 : decode cL_write 12 = .ok (.astore_n 3, 1) := by decide +kernel
theorem dL_write_13 : decode cL_write 13 = .ok (.iconst 1, 1) := by decide +kernel
theorem dL_write_14 : decode cL_write 14 = .ok (.ireturn, 1) := by decide +kernel
theorem dL_write_15 : decode cL_write 15 = .ok (.astore_n 3, 1) := by decide +kernel
theorem dL_write_16 : decode cL_write 16 = .ok (.iconst 2, 1) := by decide +kernel
theorem dL_write_17 : decode cL_write 17 = .ok (.ireturn, 1) := by decide +kernel
theorem dL_write_18 : decode cL_write 18 = .ok (.iconst 0, 1) := by decide +kernel
theorem dL_write_19 : decode cL_write 19 = .ok (.ireturn, 1) := by decide +kernel
theorem dL_line_0 : decode cL_line 0 = .ok (.aload_n 1, 1) := by decide +kernel
theorem dL_line_1 : decode cL_line 1 = .ok (.iconst 0, 1) := by decide +kernel
theorem dL_line_2 : decode cL_line 2 = .ok (.aload_n 0, 1) := by decide +kernel
theorem dL_line_3 : decode cL_line 3 = .ok (.invokevirtual 40, 3) := by decide +kernel
theorem dL_line_6 : decode cL_line 6 = .ok (.i2l, 1) := by decide +kernel
theorem dL_line_7 : decode cL_line 7 = .ok (.lastore, 1) := by decide +kernel
theorem dL_line_8 : decode cL_line 8 = .ok (.goto 9, 3) := by decide +kernel
theorem dL_line_11 : decode cL_line 11 = .ok (.astore_n 2, 1) := by decide +kernel
theorem dL_line_12 : decode cL_line 12 = .ok (.iconst 1, 1) := by decide +kernel
theorem dL_line_13 : decode cL_line 13 = .ok (.ireturn, 1) := by decide +kernel
theorem dL_line_14 : decode cL_line 14 = .ok (.astore_n 2, 1) := by decide +kernel
theorem dL_line_15 : decode cL_line 15 = .ok (.iconst 2, 1) := by decide +kernel
theorem dL_line_16 : decode cL_line 16 = .ok (.ireturn, 1) := by decide +kernel
theorem dL_line_17 : decode cL_line 17 = .ok (.iconst 0, 1) := by decide +kernel
theorem dL_line_18 : decode cL_line 18 = .ok (.ireturn, 1) := by decide +kernel
theorem dL_assemble_0 : decode cL_assemble 0 = .ok (.aload_n 2, 1) := by decide +kernel
theorem dL_assemble_1 : decode cL_assemble 1 = .ok (.iconst 0, 1) := by decide +kernel
theorem dL_assemble_2 : decode cL_assemble 2 = .ok (.aload_n 0, 1) := by decide +kernel
theorem dL_assemble_3 : decode cL_assemble 3 = .ok (.iload_n 1, 1) := by decide +kernel
theorem dL_assemble_4 : decode cL_assemble 4 = .ok (.invokevirtual 43, 3) := by decide +kernel
theorem dL_assemble_7 : decode cL_assemble 7 = .ok (.i2l, 1) := by decide +kernel
theorem dL_assemble_8 : decode cL_assemble 8 = .ok (.lastore, 1) := by decide +kernel
theorem dL_assemble_9 : decode cL_assemble 9 = .ok (.goto 15, 3) := by decide +kernel
theorem dL_assemble_12 : decode cL_assemble 12 = .ok (.astore_n 3, 1) := by decide +kernel
theorem dL_assemble_13 : decode cL_assemble 13 = .ok (.iconst 1, 1) := by decide +kernel
theorem dL_assemble_14 : decode cL_assemble 14 = .ok (.ireturn, 1) := by decide +kernel
theorem dL_assemble_15 : decode cL_assemble 15 = .ok (.astore_n 3, 1) := by decide +kernel
theorem dL_assemble_16 : decode cL_assemble 16 = .ok (.iconst 2, 1) := by decide +kernel
theorem dL_assemble_17 : decode cL_assemble 17 = .ok (.ireturn, 1) := by decide +kernel
theorem dL_assemble_18 : decode cL_assemble 18 = .ok (.astore_n 3, 1) := by decide +kernel
theorem dL_assemble_19 : decode cL_assemble 19 = .ok (.iconst 3, 1) := by decide +kernel
theorem dL_assemble_20 : decode cL_assemble 20 = .ok (.ireturn, 1) := by decide +kernel
theorem dL_assemble_21 : decode cL_assemble 21 = .ok (.astore_n 3, 1) := by decide +kernel
theorem dL_assemble_22 : decode cL_assemble 22 = .ok (.iconst 4, 1) := by decide +kernel
theorem dL_assemble_23 : decode cL_assemble 23 = .ok (.ireturn, 1) := by decide +kernel
theorem dL_assemble_24 : decode cL_assemble 24 = .ok (.iconst 0, 1) := by decide +kernel
theorem dL_assemble_25 : decode cL_assemble 25 = .ok (.ireturn, 1) := by decide +kernel
theorem dL_law_0 : decode cL_law 0 = .ok (.new 8, 3) := by decide +kernel
theorem dL_law_3 : decode cL_law 3 = .ok (.dup, 1) := by decide +kernel
theorem dL_law_4 : decode cL_law 4 = .ok (.invokespecial 48, 3) := by decide +kernel
theorem dL_law_7 : decode cL_law 7 = .ok (.astore_n 1, 1) := by decide +kernel
theorem dL_law_8 : decode cL_law 8 = .ok (.new 49, 3) := by decide +kernel
theorem dL_law_11 : decode cL_law 11 = .ok (.dup, 1) := by decide +kernel
theorem dL_law_12 : decode cL_law 12 = .ok (.invokespecial 51, 3) := by decide +kernel
theorem dL_law_15 : decode cL_law 15 = .ok (.astore_n 2, 1) := by decide +kernel
theorem dL_law_16 : decode cL_law 16 = .ok (.iconst 1, 1) := by decide +kernel
theorem dL_law_17 : decode cL_law 17 = .ok (.newarray .long, 2) := by decide +kernel
theorem dL_law_19 : decode cL_law 19 = .ok (.astore_n 3, 1) := by decide +kernel
theorem dL_law_20 : decode cL_law 20 = .ok (.iconst 0, 1) := by decide +kernel
theorem dL_law_21 : decode cL_law 21 = .ok (.istore 4, 2) := by decide +kernel
theorem dL_law_23 : decode cL_law 23 = .ok (.iload 4, 2) := by decide +kernel
theorem dL_law_25 : decode cL_law 25 = .ok (.aload_n 0, 1) := by decide +kernel
theorem dL_law_26 : decode cL_law 26 = .ok (.arraylength, 1) := by decide +kernel
theorem dL_law_27 : decode cL_law 27 = .ok (.bipush 6, 2) := by decide +kernel
theorem dL_law_29 : decode cL_law 29 = .ok (.isub, 1) := by decide +kernel
theorem dL_law_30 : decode cL_law 30 = .ok (.if_icmp .gt 760, 3) := by decide +kernel
theorem dL_law_33 : decode cL_law 33 = .ok (.aload_n 0, 1) := by decide +kernel
theorem dL_law_34 : decode cL_law 34 = .ok (.iload 4, 2) := by decide +kernel
theorem dL_law_36 : decode cL_law 36 = .ok (.iaload, 1) := by decide +kernel
theorem dL_law_37 : decode cL_law 37 = .ok (.bipush 15, 2) := by decide +kernel
theorem dL_law_39 : decode cL_law 39 = .ok (.iand, 1) := by decide +kernel
theorem dL_law_40 : decode cL_law 40 = .ok (.tableswitch 744 0 14 #[76, 103, 147, 251, 264, 332, 388, 444, 512, 568, 593, 637, 650, 706, 719], 76) := by decide +kernel
theorem dL_law_116 : decode cL_law 116 = .ok (.aload_n 1, 1) := by decide +kernel
theorem dL_law_117 : decode cL_law 117 = .ok (.aload_n 0, 1) := by decide +kernel
theorem dL_law_118 : decode cL_law 118 = .ok (.iload 4, 2) := by decide +kernel
theorem dL_law_120 : decode cL_law 120 = .ok (.iconst 1, 1) := by decide +kernel
theorem dL_law_121 : decode cL_law 121 = .ok (.iadd, 1) := by decide +kernel
theorem dL_law_122 : decode cL_law 122 = .ok (.iaload, 1) := by decide +kernel
theorem dL_law_123 : decode cL_law 123 = .ok (.i2c, 1) := by decide +kernel
theorem dL_law_124 : decode cL_law 124 = .ok (.invokevirtual 52, 3) := by decide +kernel
theorem dL_law_127 : decode cL_law 127 = .ok (.aload_n 2, 1) := by decide +kernel
theorem dL_law_128 : decode cL_law 128 = .ok (.aload_n 0, 1) := by decide +kernel
theorem dL_law_129 : decode cL_law 129 = .ok (.iload 4, 2) := by decide +kernel
theorem dL_law_131 : decode cL_law 131 = .ok (.iconst 1, 1) := by decide +kernel
theorem dL_law_132 : decode cL_law 132 = .ok (.iadd, 1) := by decide +kernel
theorem dL_law_133 : decode cL_law 133 = .ok (.iaload, 1) := by decide +kernel
theorem dL_law_134 : decode cL_law 134 = .ok (.i2c, 1) := by decide +kernel
theorem dL_law_135 : decode cL_law 135 = .ok (.invokevirtual 56, 3) := by decide +kernel
theorem dL_law_138 : decode cL_law 138 = .ok (.if_icmp .eq 646, 3) := by decide +kernel
theorem dL_law_141 : decode cL_law 141 = .ok (.iconst 0, 1) := by decide +kernel
theorem dL_law_142 : decode cL_law 142 = .ok (.ireturn, 1) := by decide +kernel
theorem dL_law_143 : decode cL_law 143 = .ok (.aload_n 1, 1) := by decide +kernel
theorem dL_law_144 : decode cL_law 144 = .ok (.aload_n 3, 1) := by decide +kernel
theorem dL_law_145 : decode cL_law 145 = .ok (.invokestatic 57, 3) := by decide +kernel
theorem dL_law_148 : decode cL_law 148 = .ok (.istore 5, 2) := by decide +kernel
theorem dL_law_150 : decode cL_law 150 = .ok (.aload_n 2, 1) := by decide +kernel
theorem dL_law_151 : decode cL_law 151 = .ok (.invokevirtual 62, 3) := by decide +kernel
theorem dL_law_154 : decode cL_law 154 = .ok (.istore 6, 2) := by decide +kernel
theorem dL_law_156 : decode cL_law 156 = .ok (.aload_n 2, 1) := by decide +kernel
theorem dL_law_157 : decode cL_law 157 = .ok (.invokevirtual 63, 3) := by decide +kernel
theorem dL_law_160 : decode cL_law 160 = .ok (.iload 5, 2) := by decide +kernel
theorem dL_law_162 : decode cL_law 162 = .ok (.if_icmp .eq 5, 3) := by decide +kernel
theorem dL_law_165 : decode cL_law 165 = .ok (.iconst 0, 1) := by decide +kernel
theorem dL_law_166 : decode cL_law 166 = .ok (.ireturn, 1) := by decide +kernel
theorem dL_law_167 : decode cL_law 167 = .ok (.iload 5, 2) := by decide +kernel
theorem dL_law_169 : decode cL_law 169 = .ok (.ifCond .ne 15, 3) := by decide +kernel
theorem dL_law_172 : decode cL_law 172 = .ok (.aload_n 3, 1) := by decide +kernel
theorem dL_law_173 : decode cL_law 173 = .ok (.iconst 0, 1) := by decide +kernel
theorem dL_law_174 : decode cL_law 174 = .ok (.laload, 1) := by decide +kernel
theorem dL_law_175 : decode cL_law 175 = .ok (.iload 6, 2) := by decide +kernel
theorem dL_law_177 : decode cL_law 177 = .ok (.i2l, 1) := by decide +kernel
theorem dL_law_178 : decode cL_law 178 = .ok (.lcmp, 1) := by decide +kernel
theorem dL_law_179 : decode cL_law 179 = .ok (.ifCond .eq 5, 3) := by decide +kernel
theorem dL_law_182 : decode cL_law 182 = .ok (.iconst 0, 1) := by decide +kernel
theorem dL_law_183 : decode cL_law 183 = .ok (.ireturn, 1) := by decide +kernel
theorem dL_law_184 : decode cL_law 184 = .ok (.goto 600, 3) := by decide +kernel
theorem dL_law_187 : decode cL_law 187 = .ok (.aload_n 1, 1) := by decide +kernel
theorem dL_law_188 : decode cL_law 188 = .ok (.aload_n 0, 1) := by decide +kernel
theorem dL_law_189 : decode cL_law 189 = .ok (.iload 4, 2) := by decide +kernel
theorem dL_law_191 : decode cL_law 191 = .ok (.iconst 1, 1) := by decide +kernel
theorem dL_law_192 : decode cL_law 192 = .ok (.iadd, 1) := by decide +kernel
theorem dL_law_193 : decode cL_law 193 = .ok (.iaload, 1) := by decide +kernel
theorem dL_law_194 : decode cL_law 194 = .ok (.aload_n 0, 1) := by decide +kernel
theorem dL_law_195 : decode cL_law 195 = .ok (.iload 4, 2) := by decide +kernel
theorem dL_law_197 : decode cL_law 197 = .ok (.iconst 2, 1) := by decide +kernel
theorem dL_law_198 : decode cL_law 198 = .ok (.iadd, 1) := by decide +kernel
theorem dL_law_199 : decode cL_law 199 = .ok (.iaload, 1) := by decide +kernel
theorem dL_law_200 : decode cL_law 200 = .ok (.aload_n 0, 1) := by decide +kernel
theorem dL_law_201 : decode cL_law 201 = .ok (.iload 4, 2) := by decide +kernel
theorem dL_law_203 : decode cL_law 203 = .ok (.iconst 3, 1) := by decide +kernel
theorem dL_law_204 : decode cL_law 204 = .ok (.iadd, 1) := by decide +kernel
theorem dL_law_205 : decode cL_law 205 = .ok (.iaload, 1) := by decide +kernel
theorem dL_law_206 : decode cL_law 206 = .ok (.aload_n 0, 1) := by decide +kernel
theorem dL_law_207 : decode cL_law 207 = .ok (.iload 4, 2) := by decide +kernel
theorem dL_law_209 : decode cL_law 209 = .ok (.iconst 4, 1) := by decide +kernel
theorem dL_law_210 : decode cL_law 210 = .ok (.iadd, 1) := by decide +kernel
theorem dL_law_211 : decode cL_law 211 = .ok (.iaload, 1) := by decide +kernel
theorem dL_law_212 : decode cL_law 212 = .ok (.aload_n 0, 1) := by decide +kernel
theorem dL_law_213 : decode cL_law 213 = .ok (.iload 4, 2) := by decide +kernel
theorem dL_law_215 : decode cL_law 215 = .ok (.iconst 5, 1) := by decide +kernel
theorem dL_law_216 : decode cL_law 216 = .ok (.iadd, 1) := by decide +kernel
theorem dL_law_217 : decode cL_law 217 = .ok (.iaload, 1) := by decide +kernel
theorem dL_law_218 : decode cL_law 218 = .ok (.aload_n 3, 1) := by decide +kernel
theorem dL_law_219 : decode cL_law 219 = .ok (.invokestatic 66, 3) := by decide +kernel
theorem dL_law_222 : decode cL_law 222 = .ok (.istore 5, 2) := by decide +kernel
theorem dL_law_224 : decode cL_law 224 = .ok (.aload_n 2, 1) := by decide +kernel
theorem dL_law_225 : decode cL_law 225 = .ok (.aload_n 0, 1) := by decide +kernel
theorem dL_law_226 : decode cL_law 226 = .ok (.iload 4, 2) := by decide +kernel
theorem dL_law_228 : decode cL_law 228 = .ok (.iconst 1, 1) := by decide +kernel
theorem dL_law_229 : decode cL_law 229 = .ok (.iadd, 1) := by decide +kernel
theorem dL_law_230 : decode cL_law 230 = .ok (.iaload, 1) := by decide +kernel
theorem dL_law_231 : decode cL_law 231 = .ok (.aload_n 0, 1) := by decide +kernel
theorem dL_law_232 : decode cL_law 232 = .ok (.iload 4, 2) := by decide +kernel
theorem dL_law_234 : decode cL_law 234 = .ok (.iconst 2, 1) := by decide +kernel
theorem dL_law_235 : decode cL_law 235 = .ok (.iadd, 1) := by decide +kernel
theorem dL_law_236 : decode cL_law 236 = .ok (.iaload, 1) := by decide +kernel
theorem dL_law_237 : decode cL_law 237 = .ok (.aload_n 0, 1) := by decide +kernel
theorem dL_law_238 : decode cL_law 238 = .ok (.iload 4, 2) := by decide +kernel
theorem dL_law_240 : decode cL_law 240 = .ok (.iconst 3, 1) := by decide +kernel
theorem dL_law_241 : decode cL_law 241 = .ok (.iadd, 1) := by decide +kernel
theorem dL_law_242 : decode cL_law 242 = .ok (.iaload, 1) := by decide +kernel
theorem dL_law_243 : decode cL_law 243 = .ok (.aload_n 0, 1) := by decide +kernel
theorem dL_law_244 : decode cL_law 244 = .ok (.iload 4, 2) := by decide +kernel
theorem dL_law_246 : decode cL_law 246 = .ok (.iconst 4, 1) := by decide +kernel
theorem dL_law_247 : decode cL_law 247 = .ok (.iadd, 1) := by decide +kernel
theorem dL_law_248 : decode cL_law 248 = .ok (.iaload, 1) := by decide +kernel
theorem dL_law_249 : decode cL_law 249 = .ok (.aload_n 0, 1) := by decide +kernel
theorem dL_law_250 : decode cL_law 250 = .ok (.iload 4, 2) := by decide +kernel
theorem dL_law_252 : decode cL_law 252 = .ok (.iconst 5, 1) := by decide +kernel
theorem dL_law_253 : decode cL_law 253 = .ok (.iadd, 1) := by decide +kernel
theorem dL_law_254 : decode cL_law 254 = .ok (.iaload, 1) := by decide +kernel
theorem dL_law_255 : decode cL_law 255 = .ok (.invokevirtual 69, 3) := by decide +kernel
theorem dL_law_258 : decode cL_law 258 = .ok (.istore 6, 2) := by decide +kernel
theorem dL_law_260 : decode cL_law 260 = .ok (.aload_n 2, 1) := by decide +kernel
theorem dL_law_261 : decode cL_law 261 = .ok (.invokevirtual 63, 3) := by decide +kernel
theorem dL_law_264 : decode cL_law 264 = .ok (.iload 5, 2) := by decide +kernel
theorem dL_law_266 : decode cL_law 266 = .ok (.if_icmp .eq 5, 3) := by decide +kernel
theorem dL_law_269 : decode cL_law 269 = .ok (.iconst 0, 1) := by decide +kernel
theorem dL_law_270 : decode cL_law 270 = .ok (.ireturn, 1) := by decide +kernel
theorem dL_law_271 : decode cL_law 271 = .ok (.iload 5, 2) := by decide +kernel
theorem dL_law_273 : decode cL_law 273 = .ok (.ifCond .ne 15, 3) := by decide +kernel
theorem dL_law_276 : decode cL_law 276 = .ok (.aload_n 3, 1) := by decide +kernel
theorem dL_law_277 : decode cL_law 277 = .ok (.iconst 0, 1) := by decide +kernel
theorem dL_law_278 : decode cL_law 278 = .ok (.laload, 1) := by decide +kernel
theorem dL_law_279 : decode cL_law 279 = .ok (.iload 6, 2) := by decide +kernel
theorem dL_law_281 : decode cL_law 281 = .ok (.i2l, 1) := by decide +kernel
theorem dL_law_282 : decode cL_law 282 = .ok (.lcmp, 1) := by decide +kernel
theorem dL_law_283 : decode cL_law 283 = .ok (.ifCond .eq 5, 3) := by decide +kernel
theorem dL_law_286 : decode cL_law 286 = .ok (.iconst 0, 1) := by decide +kernel
theorem dL_law_287 : decode cL_law 287 = .ok (.ireturn, 1) := by decide +kernel
theorem dL_law_288 : decode cL_law 288 = .ok (.goto 496, 3) := by decide +kernel
theorem dL_law_291 : decode cL_law 291 = .ok (.aload_n 1, 1) := by decide +kernel
theorem dL_law_292 : decode cL_law 292 = .ok (.invokevirtual 70, 3) := by decide +kernel
theorem dL_law_295 : decode cL_law 295 = .ok (.aload_n 2, 1) := by decide +kernel
theorem dL_law_296 : decode cL_law 296 = .ok (.invokevirtual 73, 3) := by decide +kernel
theorem dL_law_299 : decode cL_law 299 = .ok (.if_icmp .eq 485, 3) := by decide +kernel
theorem dL_law_302 : decode cL_law 302 = .ok (.iconst 0, 1) := by decide +kernel
theorem dL_law_303 : decode cL_law 303 = .ok (.ireturn, 1) := by decide +kernel
theorem dL_law_304 : decode cL_law 304 = .ok (.aload_n 1, 1) := by decide +kernel
theorem dL_law_305 : decode cL_law 305 = .ok (.aload_n 0, 1) := by decide +kernel
theorem dL_law_306 : decode cL_law 306 = .ok (.iload 4, 2) := by decide +kernel
theorem dL_law_308 : decode cL_law 308 = .ok (.iconst 1, 1) := by decide +kernel
theorem dL_law_309 : decode cL_law 309 = .ok (.iadd, 1) := by decide +kernel
theorem dL_law_310 : decode cL_law 310 = .ok (.iaload, 1) := by decide +kernel
theorem dL_law_311 : decode cL_law 311 = .ok (.aload_n 0, 1) := by decide +kernel
theorem dL_law_312 : decode cL_law 312 = .ok (.iload 4, 2) := by decide +kernel
theorem dL_law_314 : decode cL_law 314 = .ok (.iconst 2, 1) := by decide +kernel
theorem dL_law_315 : decode cL_law 315 = .ok (.iadd, 1) := by decide +kernel
theorem dL_law_316 : decode cL_law 316 = .ok (.iaload, 1) := by decide +kernel
theorem dL_law_317 : decode cL_law 317 = .ok (.aload_n 3, 1) := by decide +kernel
theorem dL_law_318 : decode cL_law 318 = .ok (.invokestatic 74, 3) := by decide +kernel
theorem dL_law_321 : decode cL_law 321 = .ok (.istore 5, 2) := by decide +kernel
theorem dL_law_323 : decode cL_law 323 = .ok (.aload_n 2, 1) := by decide +kernel
theorem dL_law_324 : decode cL_law 324 = .ok (.aload_n 0, 1) := by decide +kernel
theorem dL_law_325 : decode cL_law 325 = .ok (.iload 4, 2) := by decide +kernel
theorem dL_law_327 : decode cL_law 327 = .ok (.iconst 1, 1) := by decide +kernel
theorem dL_law_328 : decode cL_law 328 = .ok (.iadd, 1) := by decide +kernel
theorem dL_law_329 : decode cL_law 329 = .ok (.iaload, 1) := by decide +kernel
theorem dL_law_330 : decode cL_law 330 = .ok (.aload_n 0, 1) := by decide +kernel
theorem dL_law_331 : decode cL_law 331 = .ok (.iload 4, 2) := by decide +kernel
theorem dL_law_333 : decode cL_law 333 = .ok (.iconst 2, 1) := by decide +kernel
theorem dL_law_334 : decode cL_law 334 = .ok (.iadd, 1) := by decide +kernel
theorem dL_law_335 : decode cL_law 335 = .ok (.iaload, 1) := by decide +kernel
theorem dL_law_336 : decode cL_law 336 = .ok (.invokevirtual 77, 3) := by decide +kernel
theorem dL_law_339 : decode cL_law 339 = .ok (.istore 6, 2) := by decide +kernel
theorem dL_law_341 : decode cL_law 341 = .ok (.aload_n 2, 1) := by decide +kernel
theorem dL_law_342 : decode cL_law 342 = .ok (.invokevirtual 63, 3) := by decide +kernel
theorem dL_law_345 : decode cL_law 345 = .ok (.iload 5, 2) := by decide +kernel
theorem dL_law_347 : decode cL_law 347 = .ok (.if_icmp .eq 5, 3) := by decide +kernel
theorem dL_law_350 : decode cL_law 350 = .ok (.iconst 0, 1) := by decide +kernel
theorem dL_law_351 : decode cL_law 351 = .ok (.ireturn, 1) := by decide +kernel
theorem dL_law_352 : decode cL_law 352 = .ok (.iload 5, 2) := by decide +kernel
theorem dL_law_354 : decode cL_law 354 = .ok (.ifCond .ne 15, 3) := by decide +kernel
theorem dL_law_357 : decode cL_law 357 = .ok (.aload_n 3, 1) := by decide +kernel
theorem dL_law_358 : decode cL_law 358 = .ok (.iconst 0, 1) := by decide +kernel
theorem dL_law_359 : decode cL_law 359 = .ok (.laload, 1) := by decide +kernel
theorem dL_law_360 : decode cL_law 360 = .ok (.iload 6, 2) := by decide +kernel
theorem dL_law_362 : decode cL_law 362 = .ok (.i2l, 1) := by decide +kernel
theorem dL_law_363 : decode cL_law 363 = .ok (.lcmp, 1) := by decide +kernel
theorem dL_law_364 : decode cL_law 364 = .ok (.ifCond .eq 5, 3) := by decide +kernel
theorem dL_law_367 : decode cL_law 367 = .ok (.iconst 0, 1) := by decide +kernel
theorem dL_law_368 : decode cL_law 368 = .ok (.ireturn, 1) := by decide +kernel
theorem dL_law_369 : decode cL_law 369 = .ok (.goto 415, 3) := by decide +kernel
theorem dL_law_372 : decode cL_law 372 = .ok (.aload_n 1, 1) := by decide +kernel
theorem dL_law_373 : decode cL_law 373 = .ok (.aload_n 0, 1) := by decide +kernel
theorem dL_law_374 : decode cL_law 374 = .ok (.iload 4, 2) := by decide +kernel
theorem dL_law_376 : decode cL_law 376 = .ok (.iconst 1, 1) := by decide +kernel
theorem dL_law_377 : decode cL_law 377 = .ok (.iadd, 1) := by decide +kernel
theorem dL_law_378 : decode cL_law 378 = .ok (.iaload, 1) := by decide +kernel
theorem dL_law_379 : decode cL_law 379 = .ok (.aload_n 3, 1) := by decide +kernel
theorem dL_law_380 : decode cL_law 380 = .ok (.invokestatic 78, 3) := by decide +kernel
theorem dL_law_383 : decode cL_law 383 = .ok (.istore 5, 2) := by decide +kernel
theorem dL_law_385 : decode cL_law 385 = .ok (.aload_n 2, 1) := by decide +kernel
theorem dL_law_386 : decode cL_law 386 = .ok (.aload_n 0, 1) := by decide +kernel
theorem dL_law_387 : decode cL_law 387 = .ok (.iload 4, 2) := by decide +kernel
theorem dL_law_389 : decode cL_law 389 = .ok (.iconst 1, 1) := by decide +kernel
theorem dL_law_390 : decode cL_law 390 = .ok (.iadd, 1) := by decide +kernel
theorem dL_law_391 : decode cL_law 391 = .ok (.iaload, 1) := by decide +kernel
theorem dL_law_392 : decode cL_law 392 = .ok (.invokevirtual 81, 3) := by decide +kernel
theorem dL_law_395 : decode cL_law 395 = .ok (.istore 6, 2) := by decide +kernel
theorem dL_law_397 : decode cL_law 397 = .ok (.aload_n 2, 1) := by decide +kernel
theorem dL_law_398 : decode cL_law 398 = .ok (.invokevirtual 63, 3) := by decide +kernel
theorem dL_law_401 : decode cL_law 401 = .ok (.iload 5, 2) := by decide +kernel
theorem dL_law_403 : decode cL_law 403 = .ok (.if_icmp .eq 5, 3) := by decide +kernel
theorem dL_law_406 : decode cL_law 406 = .ok (.iconst 0, 1) := by decide +kernel
theorem dL_law_407 : decode cL_law 407 = .ok (.ireturn, 1) := by decide +kernel
theorem dL_law_408 : decode cL_law 408 = .ok (.iload 5, 2) := by decide +kernel
theorem dL_law_410 : decode cL_law 410 = .ok (.ifCond .ne 15, 3) := by decide +kernel
theorem dL_law_413 : decode cL_law 413 = .ok (.aload_n 3, 1) := by decide +kernel
theorem dL_law_414 : decode cL_law 414 = .ok (.iconst 0, 1) := by decide +kernel
theorem dL_law_415 : decode cL_law 415 = .ok (.laload, 1) := by decide +kernel
theorem dL_law_416 : decode cL_law 416 = .ok (.iload 6, 2) := by decide +kernel
theorem dL_law_418 : decode cL_law 418 = .ok (.i2l, 1) := by decide +kernel
theorem dL_law_419 : decode cL_law 419 = .ok (.lcmp, 1) := by decide +kernel
theorem dL_law_420 : decode cL_law 420 = .ok (.ifCond .eq 5, 3) := by decide +kernel
theorem dL_law_423 : decode cL_law 423 = .ok (.iconst 0, 1) := by decide +kernel
theorem dL_law_424 : decode cL_law 424 = .ok (.ireturn, 1) := by decide +kernel
theorem dL_law_425 : decode cL_law 425 = .ok (.goto 359, 3) := by decide +kernel
theorem dL_law_428 : decode cL_law 428 = .ok (.aload_n 1, 1) := by decide +kernel
theorem dL_law_429 : decode cL_law 429 = .ok (.aload_n 0, 1) := by decide +kernel
theorem dL_law_430 : decode cL_law 430 = .ok (.iload 4, 2) := by decide +kernel
theorem dL_law_432 : decode cL_law 432 = .ok (.iconst 1, 1) := by decide +kernel
theorem dL_law_433 : decode cL_law 433 = .ok (.iadd, 1) := by decide +kernel
theorem dL_law_434 : decode cL_law 434 = .ok (.iaload, 1) := by decide +kernel
theorem dL_law_435 : decode cL_law 435 = .ok (.aload_n 3, 1) := by decide +kernel
theorem dL_law_436 : decode cL_law 436 = .ok (.invokestatic 82, 3) := by decide +kernel
theorem dL_law_439 : decode cL_law 439 = .ok (.istore 5, 2) := by decide +kernel
theorem dL_law_441 : decode cL_law 441 = .ok (.aload_n 2, 1) := by decide +kernel
theorem dL_law_442 : decode cL_law 442 = .ok (.aload_n 0, 1) := by decide +kernel
theorem dL_law_443 : decode cL_law 443 = .ok (.iload 4, 2) := by decide +kernel
theorem dL_law_445 : decode cL_law 445 = .ok (.iconst 1, 1) := by decide +kernel
theorem dL_law_446 : decode cL_law 446 = .ok (.iadd, 1) := by decide +kernel
theorem dL_law_447 : decode cL_law 447 = .ok (.iaload, 1) := by decide +kernel
theorem dL_law_448 : decode cL_law 448 = .ok (.invokevirtual 84, 3) := by decide +kernel
theorem dL_law_451 : decode cL_law 451 = .ok (.istore 6, 2) := by decide +kernel
theorem dL_law_453 : decode cL_law 453 = .ok (.aload_n 2, 1) := by decide +kernel
theorem dL_law_454 : decode cL_law 454 = .ok (.invokevirtual 63, 3) := by decide +kernel
theorem dL_law_457 : decode cL_law 457 = .ok (.iload 5, 2) := by decide +kernel
theorem dL_law_459 : decode cL_law 459 = .ok (.if_icmp .eq 5, 3) := by decide +kernel
theorem dL_law_462 : decode cL_law 462 = .ok (.iconst 0, 1) := by decide +kernel
theorem dL_law_463 : decode cL_law 463 = .ok (.ireturn, 1) := by decide +kernel
theorem dL_law_464 : decode cL_law 464 = .ok (.iload 5, 2) := by decide +kernel
theorem dL_law_466 : decode cL_law 466 = .ok (.ifCond .ne 15, 3) := by decide +kernel
theorem dL_law_469 : decode cL_law 469 = .ok (.aload_n 3, 1) := by decide +kernel
theorem dL_law_470 : decode cL_law 470 = .ok (.iconst 0, 1) := by decide +kernel
theorem dL_law_471 : decode cL_law 471 = .ok (.laload, 1) := by decide +kernel
theorem dL_law_472 : decode cL_law 472 = .ok (.iload 6, 2) := by decide +kernel
theorem dL_law_474 : decode cL_law 474 = .ok (.i2l, 1) := by decide +kernel
theorem dL_law_475 : decode cL_law 475 = .ok (.lcmp, 1) := by decide +kernel
theorem dL_law_476 : decode cL_law 476 = .ok (.ifCond .eq 5, 3) := by decide +kernel
theorem dL_law_479 : decode cL_law 479 = .ok (.iconst 0, 1) := by decide +kernel
theorem dL_law_480 : decode cL_law 480 = .ok (.ireturn, 1) := by decide +kernel
theorem dL_law_481 : decode cL_law 481 = .ok (.goto 303, 3) := by decide +kernel
theorem dL_law_484 : decode cL_law 484 = .ok (.aload_n 1, 1) := by decide +kernel
theorem dL_law_485 : decode cL_law 485 = .ok (.aload_n 0, 1) := by decide +kernel
theorem dL_law_486 : decode cL_law 486 = .ok (.iload 4, 2) := by decide +kernel
theorem dL_law_488 : decode cL_law 488 = .ok (.iconst 1, 1) := by decide +kernel
theorem dL_law_489 : decode cL_law 489 = .ok (.iadd, 1) := by decide +kernel
theorem dL_law_490 : decode cL_law 490 = .ok (.iaload, 1) := by decide +kernel
theorem dL_law_491 : decode cL_law 491 = .ok (.aload_n 0, 1) := by decide +kernel
theorem dL_law_492 : decode cL_law 492 = .ok (.iload 4, 2) := by decide +kernel
theorem dL_law_494 : decode cL_law 494 = .ok (.iconst 2, 1) := by decide +kernel
theorem dL_law_495 : decode cL_law 495 = .ok (.iadd, 1) := by decide +kernel
theorem dL_law_496 : decode cL_law 496 = .ok (.iaload, 1) := by decide +kernel
theorem dL_law_497 : decode cL_law 497 = .ok (.aload_n 3, 1) := by decide +kernel
theorem dL_law_498 : decode cL_law 498 = .ok (.invokestatic 85, 3) := by decide +kernel
theorem dL_law_501 : decode cL_law 501 = .ok (.istore 5, 2) := by decide +kernel
theorem dL_law_503 : decode cL_law 503 = .ok (.aload_n 2, 1) := by decide +kernel
theorem dL_law_504 : decode cL_law 504 = .ok (.aload_n 0, 1) := by decide +kernel
theorem dL_law_505 : decode cL_law 505 = .ok (.iload 4, 2) := by decide +kernel
theorem dL_law_507 : decode cL_law 507 = .ok (.iconst 1, 1) := by decide +kernel
theorem dL_law_508 : decode cL_law 508 = .ok (.iadd, 1) := by decide +kernel
theorem dL_law_509 : decode cL_law 509 = .ok (.iaload, 1) := by decide +kernel
theorem dL_law_510 : decode cL_law 510 = .ok (.aload_n 0, 1) := by decide +kernel
theorem dL_law_511 : decode cL_law 511 = .ok (.iload 4, 2) := by decide +kernel
theorem dL_law_513 : decode cL_law 513 = .ok (.iconst 2, 1) := by decide +kernel
theorem dL_law_514 : decode cL_law 514 = .ok (.iadd, 1) := by decide +kernel
theorem dL_law_515 : decode cL_law 515 = .ok (.iaload, 1) := by decide +kernel
theorem dL_law_516 : decode cL_law 516 = .ok (.invokevirtual 87, 3) := by decide +kernel
theorem dL_law_519 : decode cL_law 519 = .ok (.istore 6, 2) := by decide +kernel
theorem dL_law_521 : decode cL_law 521 = .ok (.aload_n 2, 1) := by decide +kernel
theorem dL_law_522 : decode cL_law 522 = .ok (.invokevirtual 63, 3) := by decide +kernel
theorem dL_law_525 : decode cL_law 525 = .ok (.iload 5, 2) := by decide +kernel
theorem dL_law_527 : decode cL_law 527 = .ok (.if_icmp .eq 5, 3) := by decide +kernel
theorem dL_law_530 : decode cL_law 530 = .ok (.iconst 0, 1) := by decide +kernel
theorem dL_law_531 : decode cL_law 531 = .ok (.ireturn, 1) := by decide +kernel
theorem dL_law_532 : decode cL_law 532 = .ok (.iload 5, 2) := by decide +kernel
theorem dL_law_534 : decode cL_law 534 = .ok (.ifCond .ne 15, 3) := by decide +kernel
theorem dL_law_537 : decode cL_law 537 = .ok (.aload_n 3, 1) := by decide +kernel
theorem dL_law_538 : decode cL_law 538 = .ok (.iconst 0, 1) := by decide +kernel
theorem dL_law_539 : decode cL_law 539 = .ok (.laload, 1) := by decide +kernel
theorem dL_law_540 : decode cL_law 540 = .ok (.iload 6, 2) := by decide +kernel
theorem dL_law_542 : decode cL_law 542 = .ok (.i2l, 1) := by decide +kernel
theorem dL_law_543 : decode cL_law 543 = .ok (.lcmp, 1) := by decide +kernel
theorem dL_law_544 : decode cL_law 544 = .ok (.ifCond .eq 5, 3) := by decide +kernel
theorem dL_law_547 : decode cL_law 547 = .ok (.iconst 0, 1) := by decide +kernel
theorem dL_law_548 : decode cL_law 548 = .ok (.ireturn, 1) := by decide +kernel
theorem dL_law_549 : decode cL_law 549 = .ok (.goto 235, 3) := by decide +kernel
theorem dL_law_552 : decode cL_law 552 = .ok (.aload_n 1, 1) := by decide +kernel
theorem dL_law_553 : decode cL_law 553 = .ok (.aload_n 0, 1) := by decide +kernel
theorem dL_law_554 : decode cL_law 554 = .ok (.iload 4, 2) := by decide +kernel
theorem dL_law_556 : decode cL_law 556 = .ok (.iconst 1, 1) := by decide +kernel
theorem dL_law_557 : decode cL_law 557 = .ok (.iadd, 1) := by decide +kernel
theorem dL_law_558 : decode cL_law 558 = .ok (.iaload, 1) := by decide +kernel
theorem dL_law_559 : decode cL_law 559 = .ok (.aload_n 3, 1) := by decide +kernel
theorem dL_law_560 : decode cL_law 560 = .ok (.invokestatic 88, 3) := by decide +kernel
theorem dL_law_563 : decode cL_law 563 = .ok (.istore 5, 2) := by decide +kernel
theorem dL_law_565 : decode cL_law 565 = .ok (.aload_n 2, 1) := by decide +kernel
theorem dL_law_566 : decode cL_law 566 = .ok (.aload_n 0, 1) := by decide +kernel
theorem dL_law_567 : decode cL_law 567 = .ok (.iload 4, 2) := by decide +kernel
theorem dL_law_569 : decode cL_law 569 = .ok (.iconst 1, 1) := by decide +kernel
theorem dL_law_570 : decode cL_law 570 = .ok (.iadd, 1) := by decide +kernel
theorem dL_law_571 : decode cL_law 571 = .ok (.iaload, 1) := by decide +kernel
theorem dL_law_572 : decode cL_law 572 = .ok (.invokevirtual 90, 3) := by decide +kernel
theorem dL_law_575 : decode cL_law 575 = .ok (.istore 6, 2) := by decide +kernel
theorem dL_law_577 : decode cL_law 577 = .ok (.aload_n 2, 1) := by decide +kernel
theorem dL_law_578 : decode cL_law 578 = .ok (.invokevirtual 63, 3) := by decide +kernel
theorem dL_law_581 : decode cL_law 581 = .ok (.iload 5, 2) := by decide +kernel
theorem dL_law_583 : decode cL_law 583 = .ok (.if_icmp .eq 5, 3) := by decide +kernel
theorem dL_law_586 : decode cL_law 586 = .ok (.iconst 0, 1) := by decide +kernel
theorem dL_law_587 : decode cL_law 587 = .ok (.ireturn, 1) := by decide +kernel
theorem dL_law_588 : decode cL_law 588 = .ok (.iload 5, 2) := by decide +kernel
theorem dL_law_590 : decode cL_law 590 = .ok (.ifCond .ne 15, 3) := by decide +kernel
theorem dL_law_593 : decode cL_law 593 = .ok (.aload_n 3, 1) := by decide +kernel
theorem dL_law_594 : decode cL_law 594 = .ok (.iconst 0, 1) := by decide +kernel
theorem dL_law_595 : decode cL_law 595 = .ok (.laload, 1) := by decide +kernel
theorem dL_law_596 : decode cL_law 596 = .ok (.iload 6, 2) := by decide +kernel
theorem dL_law_598 : decode cL_law 598 = .ok (.i2l, 1) := by decide +kernel
theorem dL_law_599 : decode cL_law 599 = .ok (.lcmp, 1) := by decide +kernel
theorem dL_law_600 : decode cL_law 600 = .ok (.ifCond .eq 5, 3) := by decide +kernel
theorem dL_law_603 : decode cL_law 603 = .ok (.iconst 0, 1) := by decide +kernel
theorem dL_law_604 : decode cL_law 604 = .ok (.ireturn, 1) := by decide +kernel
theorem dL_law_605 : decode cL_law 605 = .ok (.goto 179, 3) := by decide +kernel
theorem dL_law_608 : decode cL_law 608 = .ok (.aload_n 1, 1) := by decide +kernel
theorem dL_law_609 : decode cL_law 609 = .ok (.aload_n 0, 1) := by decide +kernel
theorem dL_law_610 : decode cL_law 610 = .ok (.iload 4, 2) := by decide +kernel
theorem dL_law_612 : decode cL_law 612 = .ok (.iconst 1, 1) := by decide +kernel
theorem dL_law_613 : decode cL_law 613 = .ok (.iadd, 1) := by decide +kernel
theorem dL_law_614 : decode cL_law 614 = .ok (.iaload, 1) := by decide +kernel
theorem dL_law_615 : decode cL_law 615 = .ok (.invokevirtual 91, 3) := by decide +kernel
theorem dL_law_618 : decode cL_law 618 = .ok (.aload_n 2, 1) := by decide +kernel
theorem dL_law_619 : decode cL_law 619 = .ok (.aload_n 0, 1) := by decide +kernel
theorem dL_law_620 : decode cL_law 620 = .ok (.iload 4, 2) := by decide +kernel
theorem dL_law_622 : decode cL_law 622 = .ok (.iconst 1, 1) := by decide +kernel
theorem dL_law_623 : decode cL_law 623 = .ok (.iadd, 1) := by decide +kernel
theorem dL_law_624 : decode cL_law 624 = .ok (.iaload, 1) := by decide +kernel
theorem dL_law_625 : decode cL_law 625 = .ok (.invokevirtual 95, 3) := by decide +kernel
theorem dL_law_628 : decode cL_law 628 = .ok (.if_icmp .eq 156, 3) := by decide +kernel
theorem dL_law_631 : decode cL_law 631 = .ok (.iconst 0, 1) := by decide +kernel
theorem dL_law_632 : decode cL_law 632 = .ok (.ireturn, 1) := by decide +kernel
theorem dL_law_633 : decode cL_law 633 = .ok (.aload_n 1, 1) := by decide +kernel
theorem dL_law_634 : decode cL_law 634 = .ok (.aload_n 3, 1) := by decide +kernel
theorem dL_law_635 : decode cL_law 635 = .ok (.invokestatic 96, 3) := by decide +kernel
theorem dL_law_638 : decode cL_law 638 = .ok (.istore 5, 2) := by decide +kernel
theorem dL_law_640 : decode cL_law 640 = .ok (.aload_n 2, 1) := by decide +kernel
theorem dL_law_641 : decode cL_law 641 = .ok (.invokevirtual 98, 3) := by decide +kernel
theorem dL_law_644 : decode cL_law 644 = .ok (.istore 6, 2) := by decide +kernel
theorem dL_law_646 : decode cL_law 646 = .ok (.aload_n 2, 1) := by decide +kernel
theorem dL_law_647 : decode cL_law 647 = .ok (.invokevirtual 63, 3) := by decide +kernel
theorem dL_law_650 : decode cL_law 650 = .ok (.iload 5, 2) := by decide +kernel
theorem dL_law_652 : decode cL_law 652 = .ok (.if_icmp .eq 5, 3) := by decide +kernel
theorem dL_law_655 : decode cL_law 655 = .ok (.iconst 0, 1) := by decide +kernel
theorem dL_law_656 : decode cL_law 656 = .ok (.ireturn, 1) := by decide +kernel
theorem dL_law_657 : decode cL_law 657 = .ok (.iload 5, 2) := by decide +kernel
theorem dL_law_659 : decode cL_law 659 = .ok (.ifCond .ne 15, 3) := by decide +kernel
theorem dL_law_662 : decode cL_law 662 = .ok (.aload_n 3, 1) := by decide +kernel
theorem dL_law_663 : decode cL_law 663 = .ok (.iconst 0, 1) := by decide +kernel
theorem dL_law_664 : decode cL_law 664 = .ok (.laload, 1) := by decide +kernel
theorem dL_law_665 : decode cL_law 665 = .ok (.iload 6, 2) := by decide +kernel
theorem dL_law_667 : decode cL_law 667 = .ok (.i2l, 1) := by decide +kernel
theorem dL_law_668 : decode cL_law 668 = .ok (.lcmp, 1) := by decide +kernel
theorem dL_law_669 : decode cL_law 669 = .ok (.ifCond .eq 5, 3) := by decide +kernel
theorem dL_law_672 : decode cL_law 672 = .ok (.iconst 0, 1) := by decide +kernel
theorem dL_law_673 : decode cL_law 673 = .ok (.ireturn, 1) := by decide +kernel
theorem dL_law_674 : decode cL_law 674 = .ok (.goto 110, 3) := by decide +kernel
theorem dL_law_677 : decode cL_law 677 = .ok (.aload_n 1, 1) := by decide +kernel
theorem dL_law_678 : decode cL_law 678 = .ok (.invokevirtual 99, 3) := by decide +kernel
theorem dL_law_681 : decode cL_law 681 = .ok (.aload_n 2, 1) := by decide +kernel
theorem dL_law_682 : decode cL_law 682 = .ok (.invokevirtual 102, 3) := by decide +kernel
theorem dL_law_685 : decode cL_law 685 = .ok (.if_icmp .eq 99, 3) := by decide +kernel
theorem dL_law_688 : decode cL_law 688 = .ok (.iconst 0, 1) := by decide +kernel
theorem dL_law_689 : decode cL_law 689 = .ok (.ireturn, 1) := by decide +kernel
theorem dL_law_690 : decode cL_law 690 = .ok (.aload_n 1, 1) := by decide +kernel
theorem dL_law_691 : decode cL_law 691 = .ok (.aload_n 0, 1) := by decide +kernel
theorem dL_law_692 : decode cL_law 692 = .ok (.iload 4, 2) := by decide +kernel
theorem dL_law_694 : decode cL_law 694 = .ok (.iconst 1, 1) := by decide +kernel
theorem dL_law_695 : decode cL_law 695 = .ok (.iadd, 1) := by decide +kernel
theorem dL_law_696 : decode cL_law 696 = .ok (.iaload, 1) := by decide +kernel
theorem dL_law_697 : decode cL_law 697 = .ok (.aload_n 3, 1) := by decide +kernel
theorem dL_law_698 : decode cL_law 698 = .ok (.invokestatic 103, 3) := by decide +kernel
theorem dL_law_701 : decode cL_law 701 = .ok (.istore 5, 2) := by decide +kernel
theorem dL_law_703 : decode cL_law 703 = .ok (.aload_n 2, 1) := by decide +kernel
theorem dL_law_704 : decode cL_law 704 = .ok (.aload_n 0, 1) := by decide +kernel
theorem dL_law_705 : decode cL_law 705 = .ok (.iload 4, 2) := by decide +kernel
theorem dL_law_707 : decode cL_law 707 = .ok (.iconst 1, 1) := by decide +kernel
theorem dL_law_708 : decode cL_law 708 = .ok (.iadd, 1) := by decide +kernel
theorem dL_law_709 : decode cL_law 709 = .ok (.iaload, 1) := by decide +kernel
theorem dL_law_710 : decode cL_law 710 = .ok (.invokevirtual 105, 3) := by decide +kernel
theorem dL_law_713 : decode cL_law 713 = .ok (.istore 6, 2) := by decide +kernel
theorem dL_law_715 : decode cL_law 715 = .ok (.aload_n 2, 1) := by decide +kernel
theorem dL_law_716 : decode cL_law 716 = .ok (.invokevirtual 63, 3) := by decide +kernel
theorem dL_law_719 : decode cL_law 719 = .ok (.iload 5, 2) := by decide +kernel
theorem dL_law_721 : decode cL_law 721 = .ok (.if_icmp .eq 5, 3) := by decide +kernel
theorem dL_law_724 : decode cL_law 724 = .ok (.iconst 0, 1) := by decide +kernel
theorem dL_law_725 : decode cL_law 725 = .ok (.ireturn, 1) := by decide +kernel
theorem dL_law_726 : decode cL_law 726 = .ok (.iload 5, 2) := by decide +kernel
theorem dL_law_728 : decode cL_law 728 = .ok (.ifCond .ne 15, 3) := by decide +kernel
theorem dL_law_731 : decode cL_law 731 = .ok (.aload_n 3, 1) := by decide +kernel
theorem dL_law_732 : decode cL_law 732 = .ok (.iconst 0, 1) := by decide +kernel
theorem dL_law_733 : decode cL_law 733 = .ok (.laload, 1) := by decide +kernel
theorem dL_law_734 : decode cL_law 734 = .ok (.iload 6, 2) := by decide +kernel
theorem dL_law_736 : decode cL_law 736 = .ok (.i2l, 1) := by decide +kernel
theorem dL_law_737 : decode cL_law 737 = .ok (.lcmp, 1) := by decide +kernel
theorem dL_law_738 : decode cL_law 738 = .ok (.ifCond .eq 5, 3) := by decide +kernel
theorem dL_law_741 : decode cL_law 741 = .ok (.iconst 0, 1) := by decide +kernel
theorem dL_law_742 : decode cL_law 742 = .ok (.ireturn, 1) := by decide +kernel
theorem dL_law_743 : decode cL_law 743 = .ok (.goto 41, 3) := by decide +kernel
theorem dL_law_746 : decode cL_law 746 = .ok (.aload_n 1, 1) := by decide +kernel
theorem dL_law_747 : decode cL_law 747 = .ok (.invokevirtual 106, 3) := by decide +kernel
theorem dL_law_750 : decode cL_law 750 = .ok (.aload_n 2, 1) := by decide +kernel
theorem dL_law_751 : decode cL_law 751 = .ok (.invokevirtual 109, 3) := by decide +kernel
theorem dL_law_754 : decode cL_law 754 = .ok (.if_icmp .eq 30, 3) := by decide +kernel
theorem dL_law_757 : decode cL_law 757 = .ok (.iconst 0, 1) := by decide +kernel
theorem dL_law_758 : decode cL_law 758 = .ok (.ireturn, 1) := by decide +kernel
theorem dL_law_759 : decode cL_law 759 = .ok (.aload_n 1, 1) := by decide +kernel
theorem dL_law_760 : decode cL_law 760 = .ok (.aload_n 0, 1) := by decide +kernel
theorem dL_law_761 : decode cL_law 761 = .ok (.iload 4, 2) := by decide +kernel
theorem dL_law_763 : decode cL_law 763 = .ok (.iconst 1, 1) := by decide +kernel
theorem dL_law_764 : decode cL_law 764 = .ok (.iadd, 1) := by decide +kernel
theorem dL_law_765 : decode cL_law 765 = .ok (.iaload, 1) := by decide +kernel
theorem dL_law_766 : decode cL_law 766 = .ok (.invokevirtual 110, 3) := by decide +kernel
theorem dL_law_769 : decode cL_law 769 = .ok (.aload_n 2, 1) := by decide +kernel
theorem dL_law_770 : decode cL_law 770 = .ok (.aload_n 0, 1) := by decide +kernel
theorem dL_law_771 : decode cL_law 771 = .ok (.iload 4, 2) := by decide +kernel
theorem dL_law_773 : decode cL_law 773 = .ok (.iconst 1, 1) := by decide +kernel
theorem dL_law_774 : decode cL_law 774 = .ok (.iadd, 1) := by decide +kernel
theorem dL_law_775 : decode cL_law 775 = .ok (.iaload, 1) := by decide +kernel
theorem dL_law_776 : decode cL_law 776 = .ok (.invokevirtual 113, 3) := by decide +kernel
theorem dL_law_779 : decode cL_law 779 = .ok (.if_icmp .eq 5, 3) := by decide +kernel
theorem dL_law_782 : decode cL_law 782 = .ok (.iconst 0, 1) := by decide +kernel
theorem dL_law_783 : decode cL_law 783 = .ok (.ireturn, 1) := by decide +kernel
theorem dL_law_784 : decode cL_law 784 = .ok (.iinc 4 6, 3) := by decide +kernel
theorem dL_law_787 : decode cL_law 787 = .ok (.goto (-764), 3) := by decide +kernel
theorem dL_law_790 : decode cL_law 790 = .ok (.iconst 1, 1) := by decide +kernel
theorem dL_law_791 : decode cL_law 791 = .ok (.ireturn, 1) := by decide +kernel
end
section
/-! one list of words for all methods: the good ones of the tables -/
def oa_T : List Cond := lw_tbl.filter goodWord
def oa_w (y : MethodName) (b : ByteArray) (n : Nat) (r : Option FieldType) : List Cond := .code y b n r :: oa_T
theorem oa_mem {i : Nat} {w : Cond} (h : lw_tbl[i]? = some w) (hg : goodWord w = true) : w ∈ oa_T := List.mem_filter.mpr ⟨List.mem_of_getElem? h, hg⟩
theorem oa_good {w : Cond} (h : w ∈ oa_T) : w ∈ oa_T ∧ ((w.onTables && w.keeps) = true ∨ ∃ ty, w = .arrayClass ty) := ⟨h, good_of_word (List.mem_filter.mp h).2⟩
theorem oa_gw {y : MethodName} {b : ByteArray} {n : Nat} {r : Option FieldType} (h5 : Cond.code y b n r ∈ oa_T) : GoodIn oa_T (oa_w y b n r) := fun w h => by
  rcases List.mem_cons.mp h with rfl | h
  · exact oa_good h5
  · exact oa_good h
theorem oa_gV {own : String} {idx : Nat} {C : String} {y : MethodName} {b : ByteArray} {n : Nat} {r : Option FieldType} (h1 : Cond.methodLink own idx y ∈ oa_T) (h2 : Cond.instanceMethod y ∈ oa_T) (h3 : Cond.selects C y y ∈ oa_T) (h4 : Cond.initialized C ∈ oa_T) (h5 : Cond.code y b n r ∈ oa_T) : GoodIn oa_T (wsV own idx C y (oa_w y b n r)) := fun w h => by
  rcases List.mem_append.mp h with h | h
  · simp only [List.mem_cons, List.not_mem_nil, or_false] at h
    rcases h with rfl | rfl | rfl | rfl
    · exact oa_good h1
    · exact oa_good h2
    · exact oa_good h3
    · exact oa_good h4
  · exact oa_gw h5 w h
theorem oa_gS {own : String} {idx : Nat} {y : MethodName} {b : ByteArray} {n : Nat} {r : Option FieldType} (h1 : Cond.methodLink own idx y ∈ oa_T) (h2 : Cond.static y ∈ oa_T) (h4 : Cond.initialized y.cls ∈ oa_T) (h5 : Cond.code y b n r ∈ oa_T) : GoodIn oa_T (va_wsS own idx y (oa_w y b n r)) := fun w h => by
  rcases List.mem_append.mp h with h | h
  · simp only [List.mem_cons, List.not_mem_nil, or_false] at h
    rcases h with rfl | rfl | rfl
    · exact oa_good h1
    · exact oa_good h2
    · exact oa_good h4
  · exact oa_gw h5 w h
theorem inX0 : ∀ w ∈ wsX00, w ∈ oa_T := by decide +kernel
theorem inX1 : ∀ w ∈ wsX10, w ∈ oa_T := by decide +kernel
theorem inX2 : ∀ w ∈ wsX20, w ∈ oa_T := by decide +kernel
theorem inX3 : ∀ w ∈ wsX30, w ∈ oa_T := by decide +kernel
theorem inX4 : ∀ w ∈ wsX40, w ∈ oa_T := by decide +kernel
theorem inX5 : ∀ w ∈ wsX50, w ∈ oa_T := by decide +kernel
/-! The two sides' objects as ONE memory: kind, number, slot. References are fixed by the kind (but for a line's form). -/
abbrev oa_M : Type := Nat → Nat → Nat → Int32
def oa_up (M : oa_M) (k i f : Nat) (x : Int32) : oa_M := fun k' i' f' => if k' = k ∧ i' = i ∧ f' = f then x else M k' i' f'
theorem oa_up_row (M : oa_M) (k i f : Nat) (x : Int32) : (oa_up M k i f x) k i = upd (M k i) f x := by
  funext j
  simp [oa_up, upd]
theorem oa_up_off (M : oa_M) {k i k' i' : Nat} (f : Nat) (x : Int32) (h : ¬ (k' = k ∧ i' = i)) : (oa_up M k i f x) k' i' = M k' i' := by
  funext j
  simp only [oa_up]
  rw [if_neg (fun q => h ⟨q.1, q.2.1⟩)]
/-- a line's form: below 0 there is none -/
def oa_fr (ad : Nat → Nat → Nat) (v : Int32) : Value := if v < 0 then .null else .ref (ad 5 v.toNatClampNeg)
/-- how many of a kind -/
def oa_n (k : Nat) : Nat := match k with
  | 0 => 1
  | 1 => 2
  | 2 => 2
  | 3 => 1
  | 4 => 1
  | 5 => 13
  | 6 => 13
  | 7 => 39
  | 8 => 1
  | 9 => 21
  | 10 => 21
  | 11 => 21
  | 20 => 1
  | 21 => 1
  | 25 => 1
  | 26 => 1
  | 27 => 1
  | 28 => 1
  | 29 => 1
  | 30 => 1
  | 31 => 1
  | 32 => 1
  | 34 => 1
  | 35 => 1
  | 36 => 1
  | 38 => 1
  | 39 => 1
  | 40 => 1
  | 41 => 1
  | 42 => 1
  | 43 => 1
  | 44 => 1
  | 45 => 1
  | 46 => 1
  | 49 => 1
  | 50 => 1
  | _ => 0
/-- what the cell of a kind holds, out of its row of numbers -/
def oa_cr (ca : Nat → ClassId) (ad : Nat → Nat → Nat) (k i : Nat) (g : Nat → Int32) : va_E := match k with
  | 0 => .inr (4, [.ref (ad 1 0), .ref (ad 1 1), .ref (ad 3 0), .ref (ad 4 0), .ref (ad 8 0), .int (g 5), .int (g 6), .int (g 7), .int (g 8)])
  | 1 => .inr (3, [.ref (ad 2 i), .int (g 1), .int (g 2)])
  | 2 => .inl (ca 0, 40, .inl g)
  | 3 => .inl (ca 1, 64, .inl g)
  | 4 => .inl (ca 3, 13, .inr (.inr (.inr (.inr (fun j => some (ad 5 j))))))
  | 5 => .inr (0, [.ref (ad 6 i), .int (g 1), .int (g 2), .int (g 3), .int (g 4), .int (g 5)])
  | 6 => .inl (ca 5, 3, .inr (.inr (.inr (.inr (fun j => some (ad 7 (3 * i + j)))))))
  | 7 => .inr (2, [.int (g 0), .int (g 1), .int (g 2), .int (g 3)])
  | 8 => .inl (ca 4, 21, .inr (.inr (.inr (.inr (fun j => some (ad 9 j))))))
  | 9 => .inr (1, [.ref (ad 10 i), .ref (ad 11 i), .int (g 2), .int (g 3), .int (g 4), .int (g 5), oa_fr ad (g 6)])
  | 10 => .inl (ca 1, 3, .inl g)
  | 11 => .inl (ca 1, 3, .inl g)
  | 20 => .inr (5, [.int (g 0), .ref (ad 21 0), .int (g 2), .int (g 3), .int (g 4), .ref (ad 25 0), .ref (ad 26 0), .ref (ad 27 0), .ref (ad 28 0), .ref (ad 29 0), .ref (ad 30 0), .ref (ad 31 0), .ref (ad 32 0), .int (g 13), .ref (ad 34 0), .ref (ad 35 0), .ref (ad 36 0), .int (g 17), .ref (ad 38 0), .ref (ad 39 0), .ref (ad 40 0), .ref (ad 41 0), .ref (ad 42 0), .ref (ad 43 0), .ref (ad 44 0), .ref (ad 45 0), .ref (ad 46 0), .int (g 27), .int (g 28), .ref (ad 49 0), .int (g 30)])
  | 21 => .inl (ca 0, 40, .inl g)
  | 25 => .inl (ca 1, 12, .inl g)
  | 26 => .inl (ca 1, 12, .inl g)
  | 27 => .inl (ca 1, 288, .inl g)
  | 28 => .inl (ca 1, 12, .inl g)
  | 29 => .inl (ca 1, 36, .inl g)
  | 30 => .inl (ca 1, 36, .inl g)
  | 31 => .inl (ca 1, 36, .inl g)
  | 32 => .inl (ca 1, 36, .inl g)
  | 34 => .inl (ca 1, 24, .inl g)
  | 35 => .inl (ca 1, 3, .inl g)
  | 36 => .inl (ca 1, 64, .inl g)
  | 38 => .inl (ca 1, 20, .inl g)
  | 39 => .inl (ca 1, 20, .inl g)
  | 40 => .inl (ca 1, 20, .inl g)
  | 41 => .inl (ca 1, 60, .inl g)
  | 42 => .inl (ca 2, 60, .inl g)
  | 43 => .inl (ca 1, 3, .inl g)
  | 44 => .inl (ca 2, 3, .inl g)
  | 45 => .inl (ca 1, 21, .inl g)
  | 46 => .inl (ca 1, 64, .inl g)
  | 49 => .inl (ca 0, 40, .inl g)
  | 50 => .inl (ca 6, 1, .inr (.inl (fun j => (g j).toInt64)))
  | _ => .inr (0, [])
def oa_ty (ca : Nat → ClassId) : List (ClassId × FieldType) := [(ca 0, .char), (ca 1, .int), (ca 2, .boolean), (ca 3, .object "OpcodeAtlas$Form"), (ca 4, .object "OpcodeAtlas$Line"), (ca 5, .object "OpcodeAtlas$Operand"), (ca 6, .long)]
/-- the addresses are apart, and behind b0 -/
def oa_W (ad : Nat → Nat → Nat) (b0 : Nat) : Prop := (∀ k i k' i', i < oa_n k → i' < oa_n k' → ad k i = ad k' i' → k = k' ∧ i = i') ∧ ∀ k i, i < oa_n k → b0 ≤ ad k i
/-- the heap holds the memory -/
def oa_H (D : va_G) (ca : Nat → ClassId) (ad : Nat → Nat → Nat) (M : oa_M) (H : Heap) : Prop := ∀ k i, i < oa_n k → va_at D vwCl (ad k i, oa_cr ca ad k i (M k i)) H
theorem oa_at {D : va_G} {ca : Nat → ClassId} {ad : Nat → Nat → Nat} {M : oa_M} {H : Heap} (h : oa_H D ca ad M H) (k i : Nat) (hi : i < oa_n k) {e : va_E} (he : oa_cr ca ad k i (M k i) = e) : va_P D vwCl [(ad k i, e)] H := by
  intro j q hq
  have hj : j < 1 := (List.getElem?_eq_some_iff.mp hq).1
  rw [show j = 0 by omega] at hq
  cases hq
  rw [← he]
  exact h k i hi
theorem oa_H.set {D : va_G} {ca : Nat → ClassId} {ad : Nat → Nat → Nat} {b0 : Nat} (hw : oa_W ad b0) {M : oa_M} {H H1 : Heap} (h : oa_H D ca ad M H) {k i f : Nat} {x : Int32} (hi : i < oa_n k) (he : va_at D vwCl (ad k i, oa_cr ca ad k i (upd (M k i) f x)) H1) (oq : ∀ q : Nat, q ≠ ad k i → H1[q]? = H[q]?) : oa_H D ca ad (oa_up M k i f x) H1 := by
  intro k' i' hi'
  by_cases hk : k' = k ∧ i' = i
  · obtain ⟨rfl, rfl⟩ := hk
    rw [oa_up_row]
    exact he
  · rw [oa_up_off M f x hk]
    exact (h k' i' hi').kept (oq _ (fun q => hk (hw.1 k' i' k i hi' hi q)))
theorem oa_H.kept {D : va_G} {ca : Nat → ClassId} {ad : Nat → Nat → Nat} {M : oa_M} {H H1 : Heap} (h : oa_H D ca ad M H) (oq : ∀ q : Nat, q < H.size → H1[q]? = H[q]?) : oa_H D ca ad M H1 := by
  intro k i hi
  exact (h k i hi).kept (oq _ ((h k i hi).lt))
/-- the class's texts, by their places -/
def oa_str : List (String × Nat × String) := [("OpcodeAtlas", 60, "the text tells no form"), ("OpcodeAtlas", 67, "there are twelve forms"), ("OpcodeAtlas", 80, "a form has that name and as many operands"), ("OpcodeAtlas", 86, "no such form"), ("OpcodeAtlas", 88, "no such operand"), ("OpcodeAtlas", 90, "no such kind"), ("OpcodeAtlas", 92, "no such scale"), ("OpcodeAtlas", 94, "no such offset"), ("OpcodeAtlas", 191, "no such address"), ("OpcodeAtlas", 189, "the atlas is not ready"), ("OpcodeAtlas", 131, "no form matches"), ("OpcodeAtlas", 153, "the text is no line"), ("OpcodeAtlas", 161, "the label stands before a colon already"), ("OpcodeAtlas", 163, "there are twenty lines"), ("OpcodeAtlas", 173, "no such form or label"), ("OpcodeAtlas", 179, "more bytes than fit behind the origin"), ("OpcodeAtlas", 184, "an operand's value is not that of any field")]
def oa_dn : List String := ["java/lang/RuntimeException", "java/lang/Exception", "java/lang/Throwable"]
def oa_cn : List String := ["java/lang/IllegalArgumentException", "java/lang/IllegalStateException", "java/lang/IndexOutOfBoundsException", "java/util/NoSuchElementException"]
/-- what the tables and the old cells say, at a method's start -/
def oa_E (D : va_G) (ca : Nat → ClassId) (b0 : Nat) (U : State) : Prop := va_K D vwCl (oa_ty ca) U ∧ b0 ≤ U.heap.size ∧ vx_Zq Bundle.tN "UNASSIGNED_STACK" Bundle.steD (fun q => b0 ≤ q) U U.heap ∧ vx_Zq Bundle.tN "SUPPRESSED_SENTINEL" Bundle.listD (fun q => b0 ≤ q) U U.heap ∧ (∀ q ∈ oa_str, ∃ sa, vk_R q.1 q.2.1 q.2.2 sa U) ∧ (∀ n ∈ oa_dn, va_Nw (.declares ⟨n, "<init>", "(Ljava/lang/String;)V"⟩) U) ∧ ∀ n ∈ oa_cn, va_Nw (.castable n n) U
theorem oa_E.call {D : va_G} {ca : Nat → ClassId} {b0 : Nat} {s U : State} {H : Heap} {locs : List Loc} (h : oa_E D ca b0 s) (hS : va_S (fun q => b0 ≤ q) s.heap H locs) (hU : U.heap = H) (hW : s.WarmedH U.vm) : oa_E D ca b0 U :=
  ⟨va_K.moved hW.alike h.1, by rw [hU]; exact Nat.le_trans h.2.1 hS.1, by rw [hU]; exact vx_Zq.moved hW.alike (h.2.2.1.kept hS.2.1), by rw [hU]; exact vx_Zq.moved hW.alike (h.2.2.2.1.kept hS.2.1), fun q hq => by
    obtain ⟨sa, hsa⟩ := h.2.2.2.2.1 q hq
    exact ⟨sa, vk_R.warm hW hsa⟩, fun n hn => va_Nw.warmD hW (h.2.2.2.2.2.1 n hn), fun n hn => va_Nw.warmC hW (h.2.2.2.2.2.2 n hn)⟩
def oa_P (D : va_G) (ca : Nat → ClassId) (ad : Nat → Nat → Nat) (b0 : Nat) (M : oa_M) (U : State) : Prop := oa_H D ca ad M U.heap ∧ oa_E D ca b0 U
theorem oa_blind (D : va_G) (ca : Nat → ClassId) (ad : Nat → Nat → Nat) (b0 : Nat) (M : oa_M) (av : List Value) : FrameBlind (va_Pc av (oa_P D ca ad b0 M)) := by
  intro a U g mk q
  obtain ⟨q0, q1, q2, q3, q4, q5, q6, q7, q8⟩ := q
  exact ⟨q0, q1, va_K.moved (u := U) (U := U.calling g mk a) (Vm.Alike.refl U.vm) q2, q3, vx_Zq.moved (u := U) (U := U.calling g mk a) (Vm.Alike.refl U.vm) q4, vx_Zq.moved (u := U) (U := U.calling g mk a) (Vm.Alike.refl U.vm) q5, fun z hz => by
    obtain ⟨sa, hsa⟩ := q6 z hz
    exact ⟨sa, vk_R.warm (s := U) (U := U.calling g mk a) (State.WarmedH.refl U) hsa⟩, fun n hn => va_Nw.warmD (s := U) (U := U.calling g mk a) (State.WarmedH.refl U) (q7 n hn), fun n hn => va_Nw.warmC (s := U) (U := U.calling g mk a) (State.WarmedH.refl U) (q8 n hn)⟩
section OAR
variable {p : Program} {l : Launch} {e : Env} {R : Room} {s : State} {m : MethodId} {args : Array Value} {below : List Frame} {meth : Method} {c : Code} {H : Heap} {locs : List Loc} {cells slots : Nat} {Q : State → Prop}
variable {cc : ByteArray} {pc : Nat} {ls : Array Slot} {rest : List Value} {D : va_G} {ca : Nat → ClassId} {ad : Nat → Nat → Nat} {b0 : Nat} {M : oa_M}
theorem oa_get (hexec : p.tables.exec = Jvm.exec) (hb : c.code = cc) {own C : String} {T : u_T} {N ci index : Nat} {Ts : List Cond} (hts : ∀ w ∈ Ts, w.before args s = true) (hin : ∀ w ∈ u_ws C T N, w ∈ Ts) (hown : s.vm.findClass own = some m.cls) (hE : oa_E D ca b0 s) (hH : oa_H D ca ad M H) (k i : Nat) (hi : i < oa_n k) {fs : List Value} (he : oa_cr ca ad k i (M k i) = .inr (ci, fs)) (hc : vwCl[ci]? = some (C, T, N)) (f : Nat) (hf : f < N)
    (hlink : (Cond.fieldLink own index (T f).1 (T f).2.1 (T f).2.2.1).before args s = true) {v : Value} (hv : fs[f]? = some v) (hdg : decode cc pc = .ok (.getfield index, 3))
    (kk : W p l e R s m args below meth c H locs cells slots Q (F0 m (pc + 3) ls (v :: rest))) : W p l e R s m args below meth c H locs cells slots Q (F0 m pc ls (.ref (ad k i) :: rest)) :=
  va_get hexec hb hts hin hown hE.1 (oa_at hH k i hi he) 0 rfl hc f hf hlink (fun _ h => h) hv hdg kk
theorem oa_put (hexec : p.tables.exec = Jvm.exec) (hb : c.code = cc) {own C : String} {T : u_T} {N ci index : Nat} {Ts : List Cond} (hts : ∀ w ∈ Ts, w.before args s = true) (hin : ∀ w ∈ u_ws C T N, w ∈ Ts) (ty0 : Nat → FieldType) (hty : ∀ k, k < N → parseFieldDescriptor (T k).2.2.1 = some (ty0 k)) (hnm : ∀ a, a < N → ∀ b, b < N → a ≠ b → (T a).2.1 ≠ (T b).2.1) (hown : s.vm.findClass own = some m.cls) (hE : oa_E D ca b0 s) (hw : oa_W ad b0) (hH : oa_H D ca ad M H) (hS : va_S (fun q => b0 ≤ q) s.heap H locs) (k i : Nat) (hi : i < oa_n k) {fs : List Value} (he : oa_cr ca ad k i (M k i) = .inr (ci, fs)) (hc : vwCl[ci]? = some (C, T, N)) (f : Nat) (hf : f < N)
    (hlink : (Cond.fieldLink own index (T f).1 (T f).2.1 (T f).2.2.1).before args s = true) (hfin : (T f).2.2.2 = false) {v : Value} (hn : narrow (ty0 f) v = v) (hfit : fits (ty0 f) v = true) (hl : f < fs.length) {x : Int32} (hnew : oa_cr ca ad k i (upd (M k i) f x) = .inr (ci, fs.set f v)) (hdg : decode cc pc = .ok (.putfield index, 3))
    (kk : ∀ (H1 : Heap) (locs1 : List Loc), oa_H D ca ad (oa_up M k i f x) H1 → va_S (fun q => b0 ≤ q) s.heap H1 locs1 → W p l e R s m args below meth c H1 locs1 cells slots Q (F0 m (pc + 3) ls rest)) : W p l e R s m args below meth c H locs cells slots Q (F0 m pc ls (v :: .ref (ad k i) :: rest)) := by
  have hK := hE.1
  have hap := va_apart (own := own) hts hin ty0 hty hnm hK hc
  have hat := hH k i hi
  rw [he] at hat
  obtain ⟨r, h1, cell, q1, q2, q3, q4⟩ := hat
  have hr : r = (C, T, N) := Option.some.inj (h1.symm.trans hc)
  subst hr
  obtain ⟨hSl, hfc, kC, hkC, hkind⟩ := hK.1 ci _ hc
  obtain ⟨cf, kf, fi, fd, hfi, hsl⟩ := hSl f hf
  have hlay := hts _ (hin _ (u_in_lay hf))
  unfold u_lay at hlay
  rw [if_neg (by rw [hfin]; decide)] at hlay
  have hst := (u_facts hfc hkC (u_lays hts hin hf) hfi).1
  have h6 := u_store hfc hkC hkind hlay hfi (hty f hf) hn hfit
  refine W.putK hexec hb (f := fd) ⟨hown, hlink, ⟨_, _, _, hfi⟩, hst⟩ (by rw [q2]; exact h6) q1 q3 (by rw [hsl]; exact k2_hasslot (q4 f hf)) rfl rfl hdg fun H' e1 e2 e3 => ?_
  rw [hsl] at e1 ⊢
  refine kk H' _ (hH.set hw hi ?_ e3) (hS.put e2 e3 (hw.2 k i hi))
  rw [hnew]
  exact ⟨_, hc, t_OB.to (V := updV (vp_V fs) f v) ⟨_, e1, q2, q3, t_set q4 hap hf v⟩ (fun j _ => vp_updV_set hl v j)⟩
theorem oa_ild (hexec : p.tables.exec = Jvm.exec) (hb : c.code = cc) (hE : oa_E D ca b0 s) (hH : oa_H D ca ad M H) (k i : Nat) (hi : i < oa_n k) (n : Nat) (he : oa_cr ca ad k i (M k i) = .inl (ca 1, n, .inl (M k i))) {j : Int32} (hin : vp_in j n) (hdg : decode cc pc = .ok (.iaload, 1))
    (kk : W p l e R s m args below meth c H locs cells slots Q (F0 m (pc + 1) ls (.int (M k i j.toNatClampNeg) :: rest))) : W p l e R s m args below meth c H locs cells slots Q (F0 m pc ls (.int j :: .ref (ad k i) :: rest)) :=
  va_iald hexec hb hE.1 (oa_at hH k i hi he) 0 1 rfl rfl hin hdg kk
theorem oa_cld (hexec : p.tables.exec = Jvm.exec) (hb : c.code = cc) (hE : oa_E D ca b0 s) (hH : oa_H D ca ad M H) (k i : Nat) (hi : i < oa_n k) (n : Nat) (he : oa_cr ca ad k i (M k i) = .inl (ca 0, n, .inl (M k i))) {j : Int32} (hin : vp_in j n) (hdg : decode cc pc = .ok (.caload, 1))
    (kk : W p l e R s m args below meth c H locs cells slots Q (F0 m (pc + 1) ls (.int (M k i j.toNatClampNeg) :: rest))) : W p l e R s m args below meth c H locs cells slots Q (F0 m pc ls (.int j :: .ref (ad k i) :: rest)) :=
  va_cald hexec hb hE.1 (oa_at hH k i hi he) 0 0 rfl rfl hin hdg kk
theorem oa_zld (hexec : p.tables.exec = Jvm.exec) (hb : c.code = cc) (hE : oa_E D ca b0 s) (hH : oa_H D ca ad M H) (k i : Nat) (hi : i < oa_n k) (n : Nat) (he : oa_cr ca ad k i (M k i) = .inl (ca 2, n, .inl (M k i))) {j : Int32} (hin : vp_in j n) (hdg : decode cc pc = .ok (.baload, 1))
    (kk : W p l e R s m args below meth c H locs cells slots Q (F0 m (pc + 1) ls (.int (M k i j.toNatClampNeg) :: rest))) : W p l e R s m args below meth c H locs cells slots Q (F0 m pc ls (.int j :: .ref (ad k i) :: rest)) :=
  va_zald hexec hb hE.1 (oa_at hH k i hi he) 0 2 rfl rfl hin hdg kk
theorem oa_ald (hexec : p.tables.exec = Jvm.exec) (hb : c.code = cc) (hE : oa_E D ca b0 s) (hH : oa_H D ca ad M H) (k i : Nat) (hi : i < oa_n k) (n t : Nat) {C : String} {g : Nat → Nat} (ht : (oa_ty ca)[t]? = some (ca t, .object C)) (he : oa_cr ca ad k i (M k i) = .inl (ca t, n, .inr (.inr (.inr (.inr (fun j => some (g j))))))) {j : Int32} (hin : vp_in j n) (hdg : decode cc pc = .ok (.aaload, 1))
    (kk : W p l e R s m args below meth c H locs cells slots Q (F0 m (pc + 1) ls (.ref (g j.toNatClampNeg) :: rest))) : W p l e R s m args below meth c H locs cells slots Q (F0 m pc ls (.int j :: .ref (ad k i) :: rest)) :=
  va_aldq hexec hb hE.1 (oa_at hH k i hi he) 0 t rfl ht hin hdg kk
theorem oa_len (hexec : p.tables.exec = Jvm.exec) (hb : c.code = cc) (hE : oa_E D ca b0 s) (hH : oa_H D ca ad M H) (k i : Nat) (hi : i < oa_n k) (t : Nat) {x : vp_A} {ty : FieldType} (ht : (oa_ty ca)[t]? = some (ca t, ty)) (he : oa_cr ca ad k i (M k i) = .inl (ca t, x)) {v : Int32} (hv : Int32.ofNat x.1 = v) (hdg : decode cc pc = .ok (.arraylength, 1))
    (kk : W p l e R s m args below meth c H locs cells slots Q (F0 m (pc + 1) ls (.int v :: rest))) : W p l e R s m args below meth c H locs cells slots Q (F0 m pc ls (.ref (ad k i) :: rest)) :=
  va_alen hexec hb hE.1 (oa_at hH k i hi he) 0 t rfl ht hv hdg kk
end OAR
end
section
/-! small words of the functions -/
def oa_in (x : Int32) (n : Nat) : Bool := decide (¬ (x < 0 ∨ n ≤ x.toNatClampNeg))
theorem oa_in_vp {x : Int32} {n : Nat} (h : oa_in x n = true) : vp_in x n := by
  have h2 := of_decide_eq_true h
  exact h2
theorem oa_lt {x : Int32} {n : Nat} (h : vp_in x n) : x.toNatClampNeg < n := Nat.not_le.mp fun q => h (Or.inr q)
theorem oa_lt7 {i : Nat} {x : Int32} (hi : i < 13) (h : vp_in x 3) : 3 * i + x.toNatClampNeg < oa_n 7 := by
  have h1 := oa_lt h
  show 3 * i + x.toNatClampNeg < 39
  omega
theorem oa_ck {α : Type} {c : Prop} {_ : Decidable c} {A : Option α} {r : α} (h : (if c then A else none) = some r) : c ∧ A = some r := by
  by_cases hc : c
  · rw [if_pos hc] at h
    exact ⟨hc, h⟩
  · rw [if_neg hc] at h
    cases h
def oa_bd {α : Type} (o : Option (Int32 × oa_M)) (k : Int32 → oa_M → Option α) : Option α := match o with
  | none => none
  | some q => k q.1 q.2
theorem oa_bdE {α : Type} {o : Option (Int32 × oa_M)} {k : Int32 → oa_M → Option α} {x : α} (h : oa_bd o k = some x) : ∃ (r : Int32) (M : oa_M), o = some (r, M) ∧ k r M = some x := by
  cases o with
  | none => cases h
  | some q => exact ⟨q.1, q.2, rfl, h⟩
def oa_bv {α : Type} (o : Option oa_M) (k : oa_M → Option α) : Option α := match o with
  | none => none
  | some q => k q
theorem oa_bvE {α : Type} {o : Option oa_M} {k : oa_M → Option α} {x : α} (h : oa_bv o k = some x) : ∃ (M : oa_M), o = some M ∧ k M = some x := by
  cases o with
  | none => cases h
  | some q => exact ⟨q, rfl, h⟩
def oa_bx (o : Option (Nat × oa_M)) (k : oa_M → Option (Nat × Int32 × oa_M)) : Option (Nat × Int32 × oa_M) := match o with
  | none => none
  | some q => if q.1 = 0 then k q.2 else some (q.1, 0, q.2)
theorem oa_bxE {o : Option (Nat × oa_M)} {k : oa_M → Option (Nat × Int32 × oa_M)} {x : Nat × Int32 × oa_M} (h : oa_bx o k = some x) : ∃ (cd : Nat) (M : oa_M), o = some (cd, M) ∧ (cd = 0 → k M = some x) ∧ (cd ≠ 0 → x = (cd, 0, M)) := by
  cases o with
  | none => cases h
  | some q =>
    refine ⟨q.1, q.2, rfl, fun hz => ?_, fun hz => ?_⟩
    · rw [oa_bx, if_pos hz] at h
      exact h
    · rw [oa_bx, if_neg hz] at h
      exact (Option.some.inj h).symm
def oa_isb (x : Int32) : Bool := decide (x = 0 ∨ x = 1)
theorem oa_nb {x : Int32} (h : oa_isb x = true) : narrow .boolean (.int x) = .int x := by
  rcases of_decide_eq_true h with rfl | rfl <;> rfl
theorem oa_fb {x : Int32} (h : oa_isb x = true) : fits .boolean (.int x) = true := by
  rcases of_decide_eq_true h with rfl | rfl <;> rfl
abbrev oa_nz (x : Int32) : Int32 := vp_nar .boolean x
abbrev oa_nc (x : Int32) : Int32 := vp_nar .char x
abbrev oa_rem (x y : Int32) : Int32 := x - x / y * y
abbrev oa_i2c (x : Int32) : Int32 := (x.toUInt32 % 65536).toInt32
abbrev oa_ushr (x y : Int32) : Int32 := (x.toUInt32 >>> (y.toUInt32 &&& Int32.toUInt32 31)).toInt32
theorem oa_frv {ad : Nat → Nat → Nat} {v : Int32} (h : vp_in v 13) : oa_fr ad v = .ref (ad 5 v.toNatClampNeg) := if_neg (fun q => h (Or.inl q))
theorem oa_fr_none {ad : Nat → Nat → Nat} : oa_fr ad (-1 : Int32) = .null := rfl
theorem oa_nfr (ad : Nat → Nat → Nat) (v : Int32) : narrow (.object "OpcodeAtlas$Form") (oa_fr ad v) = oa_fr ad v := by
  unfold oa_fr
  split <;> rfl
theorem oa_ffr (ad : Nat → Nat → Nat) (v : Int32) : fits (.object "OpcodeAtlas$Form") (oa_fr ad v) = true := by
  unfold oa_fr
  split <;> rfl
theorem oa_out3 {x : Int32} (h0 : ¬ x = (0 : Int32)) (h1 : ¬ x = (1 : Int32)) (h2 : ¬ x = (2 : Int32)) (h3 : ¬ x = (3 : Int32)) : x.toInt < 0 ∨ 3 < x.toInt := by
  have q0 := lv_neT h0 (a := 0) rfl
  have q1 := lv_neT h1 (a := 1) rfl
  have q2 := lv_neT h2 (a := 2) rfl
  have q3 := lv_neT h3 (a := 3) rfl
  omega
section OAN
variable {p : Program} {l : Launch} {e : Env} {R : Room} {s : State} {m : MethodId} {args : Array Value} {below : List Frame} {meth : Method} {c : Code} {H : Heap} {locs : List Loc} {cells slots : Nat} {Q : State → Prop}
variable {cc : ByteArray} {pc : Nat} {ls : Array Slot} {rest : List Value} {ad : Nat → Nat → Nat}
theorem oa_ifnull (hexec : p.tables.exec = Jvm.exec) (hb : c.code = cc) {v : Int32} {off : Int} {tgt : Nat} (hdg : decode cc pc = .ok (.ifnull off, 3)) (ht : (pc : Int) + off = (tgt : Int)) (kt : v < 0 → W p l e R s m args below meth c H locs cells slots Q (F0 m tgt ls rest)) (kf : ¬ v < 0 → W p l e R s m args below meth c H locs cells slots Q (F0 m (pc + 3) ls rest)) : W p l e R s m args below meth c H locs cells slots Q (F0 m pc ls (oa_fr ad v :: rest)) := by
  unfold oa_fr
  by_cases hv : v < 0
  · rw [if_pos hv]
    exact lv_ifnullN hexec hb hdg ht (kt hv)
  · rw [if_neg hv]
    exact lv_ifnull hexec hb hdg (kf hv)
theorem oa_frref {v : Int32} (h : vp_in v 13) (k : W p l e R s m args below meth c H locs cells slots Q (F0 m pc ls (.ref (ad 5 v.toNatClampNeg) :: rest))) : W p l e R s m args below meth c H locs cells slots Q (F0 m pc ls (oa_fr ad v :: rest)) := by
  rw [oa_frv h]
  exact k
end OAN
section OAS
variable {p : Program} {l : Launch} {e : Env} {R : Room} {s : State} {m : MethodId} {args : Array Value} {below : List Frame} {meth : Method} {c : Code} {H : Heap} {locs : List Loc} {cells slots : Nat} {Q : State → Prop}
variable {cc : ByteArray} {pc : Nat} {ls : Array Slot} {rest : List Value} {D : va_G} {ca : Nat → ClassId} {ad : Nat → Nat → Nat} {b0 : Nat} {M : oa_M}
theorem oa_stcell {cA : ClassId} {n k : Nat} {f : Nat → Int32} {x : Int32} : (vp_cell cA (n, .inl f)).setSlot k (.int x) = vp_cell cA (n, .inl (upd f k x)) := by
  rw [vp_cell_i, vp_cell_i, arrV_store]
  congr 2
  funext q
  by_cases hq : q = k
  · subst hq
    simp [updV, upd]
  · simp [updV, upd, hq]
theorem oa_ist (hexec : p.tables.exec = Jvm.exec) (hb : c.code = cc) (hE : oa_E D ca b0 s) (hw : oa_W ad b0) (hH : oa_H D ca ad M H) (hS : va_S (fun q => b0 ≤ q) s.heap H locs) (k i : Nat) (hi : i < oa_n k) (n : Nat) (he : ∀ g, oa_cr ca ad k i g = .inl (ca 1, n, .inl g)) {j x : Int32} (hin : vp_in j n) (hdg : decode cc pc = .ok (.iastore, 1))
    (kk : ∀ (H1 : Heap) (locs1 : List Loc), oa_H D ca ad (oa_up M k i j.toNatClampNeg x) H1 → va_S (fun q => b0 ≤ q) s.heap H1 locs1 → W p l e R s m args below meth c H1 locs1 cells slots Q (F0 m (pc + 1) ls rest)) : W p l e R s m args below meth c H locs cells slots Q (F0 m pc ls (.int x :: .int j :: .ref (ad k i) :: rest)) := by
  have hat := hH k i hi
  rw [he] at hat
  refine W.iast hexec hb hat ((hE.1.2 1 _ rfl).1 n (fun j => .int (M k i j))) (fun q => by cases q) (by show ¬ (j < 0 ∨ (arrV _ _ _).slots.size ≤ _); rw [arrV_size]; exact hin) rfl rfl hdg fun H1 e z oq => ?_
  refine kk H1 _ (hH.set hw hi ?_ oq) (hS.put z oq (hw.2 k i hi))
  rw [he]
  show H1[ad k i]? = some (vp_cell _ _)
  rw [e]
  exact congrArg some oa_stcell
theorem oa_cst (hexec : p.tables.exec = Jvm.exec) (hb : c.code = cc) (hE : oa_E D ca b0 s) (hw : oa_W ad b0) (hH : oa_H D ca ad M H) (hS : va_S (fun q => b0 ≤ q) s.heap H locs) (k i : Nat) (hi : i < oa_n k) (n : Nat) (he : ∀ g, oa_cr ca ad k i g = .inl (ca 0, n, .inl g)) {j x : Int32} (hin : vp_in j n) (hdg : decode cc pc = .ok (.castore, 1))
    (kk : ∀ (H1 : Heap) (locs1 : List Loc), oa_H D ca ad (oa_up M k i j.toNatClampNeg (vp_nar .char x)) H1 → va_S (fun q => b0 ≤ q) s.heap H1 locs1 → W p l e R s m args below meth c H1 locs1 cells slots Q (F0 m (pc + 1) ls rest)) : W p l e R s m args below meth c H locs cells slots Q (F0 m pc ls (.int x :: .int j :: .ref (ad k i) :: rest)) := by
  have hat := hH k i hi
  rw [he] at hat
  refine W.cast hexec hb hat ((hE.1.2 0 _ rfl).1 n (fun j => .int (M k i j))) (fun q => by cases q) (by show ¬ (j < 0 ∨ (arrV _ _ _).slots.size ≤ _); rw [arrV_size]; exact hin) rfl rfl hdg fun H1 e z oq => ?_
  refine kk H1 _ (hH.set hw hi ?_ oq) (hS.put z oq (hw.2 k i hi))
  rw [he]
  show H1[ad k i]? = some (vp_cell _ _)
  rw [e]
  exact congrArg some (oa_stcell (x := vp_nar .char x))
theorem oa_zst (hexec : p.tables.exec = Jvm.exec) (hb : c.code = cc) (hE : oa_E D ca b0 s) (hw : oa_W ad b0) (hH : oa_H D ca ad M H) (hS : va_S (fun q => b0 ≤ q) s.heap H locs) (k i : Nat) (hi : i < oa_n k) (n : Nat) (he : ∀ g, oa_cr ca ad k i g = .inl (ca 2, n, .inl g)) {j x : Int32} (hin : vp_in j n) (hdg : decode cc pc = .ok (.bastore, 1))
    (kk : ∀ (H1 : Heap) (locs1 : List Loc), oa_H D ca ad (oa_up M k i j.toNatClampNeg (vp_nar .boolean x)) H1 → va_S (fun q => b0 ≤ q) s.heap H1 locs1 → W p l e R s m args below meth c H1 locs1 cells slots Q (F0 m (pc + 1) ls rest)) : W p l e R s m args below meth c H locs cells slots Q (F0 m pc ls (.int x :: .int j :: .ref (ad k i) :: rest)) := by
  have hat := hH k i hi
  rw [he] at hat
  refine W.zast hexec hb hat ((hE.1.2 2 _ rfl).1 n (fun j => .int (M k i j))) (fun q => by cases q) (by show ¬ (j < 0 ∨ (arrV _ _ _).slots.size ≤ _); rw [arrV_size]; exact hin) rfl rfl hdg fun H1 e z oq => ?_
  refine kk H1 _ (hH.set hw hi ?_ oq) (hS.put z oq (hw.2 k i hi))
  rw [he]
  show H1[ad k i]? = some (vp_cell _ _)
  rw [e]
  exact congrArg some (oa_stcell (x := vp_nar .boolean x))
/-- ireturn, narrowed to the method's type -/
theorem oa_zret {Qc : Array Value → State → Outcome → State → Prop} {free : Addr → Prop} {v v' : Int32} {ty : FieldType} (hexec : p.tables.exec = Jvm.exec) (hb : c.code = cc) (hr : meth.sig.returnType = some ty) (hlocks : meth.locks = false) (hn : narrow ty (.int v) = .int v')
    (hq : ∀ t : State, t.heap = H → s.WarmedH t.vm → Qc args s (.returned (some (.int v'))) t) (hf : ∀ q ∈ locs, free q.base) (hdg : decode cc pc = .ok (.ireturn, 1)) : W p l e R s m args below meth c H locs cells slots (MQ below Qc args s cells slots free) (F0 m pc ls [.int v]) := by
  intro T hT X
  obtain ⟨fs, hret, hrun, hended, hW, hframe⟩ := X.leave (v := some (.int v')) (fun h => by rw [hr] at h; cases h)
  have hmeth' : T.vm.method? m = some meth := X.method'
  refine ⟨T.setFrames fs, ?_, .returned (some (.int v')), hrun, hended, hq _ hT hW, locs, ⟨⟨_, rfl⟩, hW, hframe⟩, hf⟩
  jvm_step X.here [X.here.top, hexec, hb, hdg, hmeth', hr, hn]
  (try refine ⟨rfl, ?_⟩); (try refine ⟨rfl, ?_⟩)
  first | (intro acts; rw [hret _ acts rfl rfl rfl]) | rw [hret _ _ rfl rfl rfl]
  exact Steps.refl _
end OAS
/-- the contract of a method that returns a number and doesn't throw: from M it comes to M' with r -/
def oa_Mi (l : Launch) (y : MethodName) (ws : List Cond) (rm : Room) (D : va_G) (ca : Nat → ClassId) (ad : Nat → Nat → Nat) (b0 : Nat) (av : List Value) (M : oa_M) (r : Int32) (M' : oa_M) : Prop :=
  Met l y ws rm (va_Pc av (oa_P D ca ad b0 M)) (va_Qi (fun (r' : Int32) (u : oa_M) => r' = r ∧ u = M') (fun u t => oa_H D ca ad u t.heap) (fun q => b0 ≤ q)) 0 0 (fun q => b0 ≤ q)
def oa_Mv (l : Launch) (y : MethodName) (ws : List Cond) (rm : Room) (D : va_G) (ca : Nat → ClassId) (ad : Nat → Nat → Nat) (b0 : Nat) (av : List Value) (M : oa_M) (M' : oa_M) : Prop :=
  Met l y ws rm (va_Pc av (oa_P D ca ad b0 M)) (va_Qv (fun (u : oa_M) => u = M') (fun u t => oa_H D ca ad u t.heap) (fun q => b0 ≤ q)) 0 0 (fun q => b0 ≤ q)
/-- the classes that are thrown -/
def oa_x (k : Nat) : String := match k with
  | 1 => "java/lang/IllegalArgumentException"
  | 2 => "java/lang/IllegalStateException"
  | 3 => "java/lang/IndexOutOfBoundsException"
  | _ => "java/util/NoSuchElementException"
/-- .. of one that may throw: code 0: it returns; else the class by its number -/
def oa_Xi (l : Launch) (y : MethodName) (ws : List Cond) (rm : Room) (mc : Nat) (D : va_G) (ca : Nat → ClassId) (ad : Nat → Nat → Nat) (b0 : Nat) (av : List Value) (M : oa_M) (o : Nat × Int32 × oa_M) : Prop :=
  vx_Met l y ws rm (va_Pc av (oa_P D ca ad b0 M)) (va_Qi (fun (r' : Int32) (u : oa_M) => o.1 = 0 ∧ r' = o.2.1 ∧ u = o.2.2) (fun u t => oa_H D ca ad u t.heap) (fun q => b0 ≤ q)) (vx_X (fun u : oa_M => o.1 ≠ 0 ∧ u = o.2.2) (fun E u t => E = oa_x o.1 ∧ oa_H D ca ad u t.heap) (fun q => b0 ≤ q)) mc (6 * mc) (fun q => b0 ≤ q)
def oa_Xv (l : Launch) (y : MethodName) (ws : List Cond) (rm : Room) (mc : Nat) (D : va_G) (ca : Nat → ClassId) (ad : Nat → Nat → Nat) (b0 : Nat) (av : List Value) (M : oa_M) (o : Nat × oa_M) : Prop :=
  vx_Met l y ws rm (va_Pc av (oa_P D ca ad b0 M)) (va_Qv (fun (u : oa_M) => o.1 = 0 ∧ u = o.2) (fun u t => oa_H D ca ad u t.heap) (fun q => b0 ≤ q)) (vx_X (fun u : oa_M => o.1 ≠ 0 ∧ u = o.2) (fun E u t => E = oa_x o.1 ∧ oa_H D ca ad u t.heap) (fun q => b0 ≤ q)) mc (6 * mc) (fun q => b0 ≤ q)
section OAC
variable {l : Launch} {D : va_G} {ca : Nat → ClassId} {ad : Nat → Nat → Nat} {b0 : Nat} {M : oa_M}
/-- what stays while a method is walked -/
def oa_Cx (p : Program) (s : State) (m : MethodId) (args : Array Value) (meth : Method) (c : Code) (cc : ByteArray) (nL : Nat) (ret : Option FieldType) (own : String) (D : va_G) (ca : Nat → ClassId) (b0 : Nat) (ad : Nat → Nat → Nat) : Prop :=
  p.tables.exec = Jvm.exec ∧ c.code = cc ∧ c.maxLocals = nL ∧ meth.sig.returnType = ret ∧ meth.locks = false ∧ s.vm.findClass own = some m.cls ∧ (∀ w ∈ oa_T, w.before args s = true) ∧ oa_E D ca b0 s ∧ oa_W ad b0
def oa_Cy (p : Program) (l : Launch) (s : State) (m : MethodId) (args : Array Value) (meth : Method) (c : Code) (cc : ByteArray) (nL : Nat) (ret : Option FieldType) (own : String) (D : va_G) (ca : Nat → ClassId) (b0 : Nat) (ad : Nat → Nat → Nat) : Prop :=
  p.tables.exec = Jvm.exec ∧ c.code = cc ∧ c.maxLocals = nL ∧ meth.sig.returnType = ret ∧ meth.locks = false ∧ s.vm.findClass own = some m.cls ∧ (∀ w ∈ oa_T, w.before args s = true) ∧ oa_E D ca b0 s ∧ oa_W ad b0 ∧ l.stackTraces = false ∧ ∀ x ∈ c.exceptionTable.toList, False
theorem oa_ofW {y : MethodName} {ws ws' : List Cond} {rm : Room} {cc : ByteArray} {maxL : Nat} {ret : Option FieldType} {av : List Value} {Pb : State → Prop} {Qc : Array Value → State → Outcome → State → Prop} {mc ms : Nat} {free : Addr → Prop} (hy : plainName y.cls = true) (hw : ws = Cond.code y cc maxL ret :: ws') (hlen : (lg_sl av).length ≤ maxL)
    (body : ∀ p e s m below meth c, p.tables.exec = Jvm.exec → c.code = cc → c.maxLocals = maxL → meth.sig.returnType = ret → meth.locks = false → s.vm.findClass y.cls = some m.cls → (∀ w ∈ ws, w.before av.toArray s = true) → Pb s → ∀ ls, lv_has ls maxL (lv_args 0 av) →
      W p l e rm s m av.toArray below meth c s.heap [] 0 0 (MQ below Qc av.toArray s mc ms free) (F0 m 0 ls [])) : Met l y ws rm (va_Pc av Pb) Qc mc ms free := by
  refine Met.ofW (cc := cc) (maxL := maxL) (ret := ret) hy hw ?_
  intro p e s m args below meth c s₁ B hml hv
  obtain ⟨rfl, hP⟩ := hv
  rw [lg_entry_eq]
  exact body p e s m below meth c B.exec B.bytes hml B.returns B.notSynchronized (findClass_of_methodNamed B.named) (atoms_spec (ws := ws) B.pre) hP _ (lv_entry av hlen)
theorem oa_ofX {y : MethodName} {ws ws' : List Cond} {rm : Room} {cc : ByteArray} {maxL : Nat} {ret : Option FieldType} {av : List Value} {Pb : State → Prop} {Qc : Array Value → State → Outcome → State → Prop} {XC : String → State → State → Prop} {mc ms : Nat} {free : Addr → Prop} (hy : plainName y.cls = true) (hw : ws = Cond.code y cc maxL ret :: ws') (hlen : (lg_sl av).length ≤ maxL)
    (body : ∀ p e s m below meth c, p.tables.exec = Jvm.exec → c.code = cc → c.maxLocals = maxL → meth.sig.returnType = ret → meth.locks = false → s.vm.findClass y.cls = some m.cls → (∀ w ∈ ws, w.before av.toArray s = true) → (∀ x ∈ c.exceptionTable.toList, False) → Pb s → ∀ ls, lv_has ls maxL (lv_args 0 av) →
      W p l e rm s m av.toArray below meth c s.heap [] 0 0 (vx_MQ below Qc XC av.toArray s mc ms free) (F0 m 0 ls [])) : vx_Met l y ws rm (va_Pc av Pb) Qc XC mc ms free := by
  refine vx_ofW (cc := cc) (maxL := maxL) (ret := ret) hy hw ?_
  intro p e s m args below meth c s₁ B hml hx hv
  obtain ⟨rfl, hP⟩ := hv
  rw [lg_entry_eq]
  exact body p e s m below meth c B.exec B.bytes hml B.returns B.notSynchronized (findClass_of_methodNamed B.named) (atoms_spec (ws := ws) B.pre) hx hP _ (lv_entry av hlen)
variable {p : Program} {e : Env} {R : Room} {s : State} {m : MethodId} {args : Array Value} {below : List Frame} {meth : Method} {c : Code} {H : Heap} {locs : List Loc} {cells slots : Nat} {Q : State → Prop}
variable {cc : ByteArray} {pc : Nat} {ls : Array Slot} {rest : List Value}
theorem oa_reti {r r' : Int32} {M' : oa_M} {ty : FieldType} (hexec : p.tables.exec = Jvm.exec) (hb : c.code = cc) (hr : meth.sig.returnType = some ty) (hlocks : meth.locks = false) (hn : narrow ty (.int r) = .int r') (hS : va_S (fun q => b0 ≤ q) s.heap H locs) (hH : oa_H D ca ad M' H) (hdg : decode cc pc = .ok (.ireturn, 1)) :
    W p l e R s m args below meth c H locs cells slots (MQ below (va_Qi (fun (x : Int32) (u : oa_M) => x = r' ∧ u = M') (fun u t => oa_H D ca ad u t.heap) (fun q => b0 ≤ q)) args s cells slots (fun q => b0 ≤ q)) (F0 m pc ls [.int r]) :=
  oa_zret hexec hb hr hlocks hn (fun t ht _ => ⟨⟨r', M', rfl, ⟨rfl, rfl⟩, show oa_H D ca ad _ t.heap by rw [ht]; exact hH⟩, hS.F ht⟩) hS.2.2 hdg
theorem oa_retv {M' : oa_M} (hexec : p.tables.exec = Jvm.exec) (hb : c.code = cc) (hr : meth.sig.returnType = none) (hlocks : meth.locks = false) (hS : va_S (fun q => b0 ≤ q) s.heap H locs) (hH : oa_H D ca ad M' H) (hdg : decode cc pc = .ok (.return_, 1)) :
    W p l e R s m args below meth c H locs cells slots (MQ below (va_Qv (fun (u : oa_M) => u = M') (fun u t => oa_H D ca ad u t.heap) (fun q => b0 ≤ q)) args s cells slots (fun q => b0 ≤ q)) (F0 m pc ls []) :=
  W.vret hexec hb hr (fun t ht _ => ⟨⟨M', rfl, rfl, show oa_H D ca ad _ t.heap by rw [ht]; exact hH⟩, hS.F ht⟩) hS.2.2 hdg hlocks
theorem oa_rexi {r r' : Int32} {o : Nat × Int32 × oa_M} {ty : FieldType} (hexec : p.tables.exec = Jvm.exec) (hb : c.code = cc) (hr : meth.sig.returnType = some ty) (hlocks : meth.locks = false) (hn : narrow ty (.int r) = .int r') (ho : o = (0, r', M)) (hS : va_S (fun q => b0 ≤ q) s.heap H locs) (hH : oa_H D ca ad M H) (hdg : decode cc pc = .ok (.ireturn, 1)) :
    W p l e R s m args below meth c H locs cells slots (MQ below (va_Qi (fun (x : Int32) (u : oa_M) => o.1 = 0 ∧ x = o.2.1 ∧ u = o.2.2) (fun u t => oa_H D ca ad u t.heap) (fun q => b0 ≤ q)) args s cells slots (fun q => b0 ≤ q)) (F0 m pc ls [.int r]) := by
  subst ho
  exact oa_zret hexec hb hr hlocks hn (fun t ht _ => ⟨⟨r', M, rfl, ⟨rfl, rfl, rfl⟩, show oa_H D ca ad _ t.heap by rw [ht]; exact hH⟩, hS.F ht⟩) hS.2.2 hdg
theorem oa_rexv {o : Nat × oa_M} (hexec : p.tables.exec = Jvm.exec) (hb : c.code = cc) (hr : meth.sig.returnType = none) (hlocks : meth.locks = false) (ho : o = (0, M)) (hS : va_S (fun q => b0 ≤ q) s.heap H locs) (hH : oa_H D ca ad M H) (hdg : decode cc pc = .ok (.return_, 1)) :
    W p l e R s m args below meth c H locs cells slots (MQ below (va_Qv (fun (u : oa_M) => o.1 = 0 ∧ u = o.2) (fun u t => oa_H D ca ad u t.heap) (fun q => b0 ≤ q)) args s cells slots (fun q => b0 ≤ q)) (F0 m pc ls []) := by
  subst ho
  exact W.vret hexec hb hr (fun t ht _ => ⟨⟨M, rfl, ⟨rfl, rfl⟩, show oa_H D ca ad _ t.heap by rw [ht]; exact hH⟩, hS.F ht⟩) hS.2.2 hdg hlocks
/-- who is called: an object of the kind k -/
theorem oa_recv {k i ci : Nat} {fs : List Value} {q : vw_C} (hE : oa_E D ca b0 s) (hH : oa_H D ca ad M H) (hi : i < oa_n k) (he : oa_cr ca ad k i (M k i) = .inr (ci, fs)) (hc : vwCl[ci]? = some q) : ∃ cell : Cell, H[ad k i]? = some cell ∧ cell.vm.isStatics = false ∧ s.vm.findClass q.1 = some cell.cls :=
  va_recv (q0 := 0) hE.1 (oa_at hH k i hi he) hc rfl
variable {y : MethodName} {bytes : ByteArray} {maxL nL n index : Nat} {ret : Option FieldType} {ws Ts : List Cond} {rm : Room} {own C : String} {As st0 : List Value} {M' : oa_M} {r : Int32}
theorem oa_cvi (S : CallFix p m c cc nL s args Ts own) {k i : Nat} (hM : oa_Mi l y ws rm D ca ad b0 (.ref (ad k i) :: As) M r M') (cw : CallW R s args own C index y bytes maxL ret ws rm 0 0 n) (hE : oa_E D ca b0 s) (hH : oa_H D ca ad M H) (hS : va_S (fun q => b0 ≤ q) s.heap H locs) (hrc : ∃ cell : Cell, H[ad k i]? = some cell ∧ cell.vm.isStatics = false ∧ s.vm.findClass C = some cell.cls)
    (hn : As.length = n) (hsize : ls.size = nL) (hstack : st0 = As.reverse ++ .ref (ad k i) :: rest) (hW : (rest.map fun v => v.category).sum ≤ 8) (hdg : decode cc pc = .ok (.invokevirtual index, 3)) (hf : cells ≤ R.cells ∧ slots ≤ R.slots)
    (kk : ∀ (H1 : Heap) (locs1 : List Loc), oa_H D ca ad M' H1 → va_S (fun q => b0 ≤ q) s.heap H1 locs1 → W p l e R s m args below meth c H1 locs1 cells slots Q (F0 m (pc + 3) ls (.int r :: rest))) : W p l e R s m args below meth c H locs cells slots Q (F0 m pc ls st0) := by
  refine va_calli (va_runV (As := As) (rest := rest) S hM cw ⟨oa_blind D ca ad b0 M _, hrc, fun U hU hW => ⟨rfl, by rw [hU]; exact hH, hE.call hS hU hW⟩⟩ rfl hn hsize hstack (lv_room hW) hdg hf) hS (fun q _ h => h) (fun q h => h) (fun r9 u t H1 locs1 ht hvm hw hB hz hk hS1 => ?_)
  obtain ⟨rfl, rfl⟩ := hw
  rw [ht] at hB
  exact kk H1 locs1 hB hS1
theorem oa_cvv (S : CallFix p m c cc nL s args Ts own) {k i : Nat} (hM : oa_Mv l y ws rm D ca ad b0 (.ref (ad k i) :: As) M M') (cw : CallW R s args own C index y bytes maxL ret ws rm 0 0 n) (hE : oa_E D ca b0 s) (hH : oa_H D ca ad M H) (hS : va_S (fun q => b0 ≤ q) s.heap H locs) (hrc : ∃ cell : Cell, H[ad k i]? = some cell ∧ cell.vm.isStatics = false ∧ s.vm.findClass C = some cell.cls)
    (hn : As.length = n) (hsize : ls.size = nL) (hstack : st0 = As.reverse ++ .ref (ad k i) :: rest) (hW : (rest.map fun v => v.category).sum ≤ 8) (hdg : decode cc pc = .ok (.invokevirtual index, 3)) (hf : cells ≤ R.cells ∧ slots ≤ R.slots)
    (kk : ∀ (H1 : Heap) (locs1 : List Loc), oa_H D ca ad M' H1 → va_S (fun q => b0 ≤ q) s.heap H1 locs1 → W p l e R s m args below meth c H1 locs1 cells slots Q (F0 m (pc + 3) ls rest)) : W p l e R s m args below meth c H locs cells slots Q (F0 m pc ls st0) := by
  refine va_callv (va_runV (As := As) (rest := rest) S hM cw ⟨oa_blind D ca ad b0 M _, hrc, fun U hU hW => ⟨rfl, by rw [hU]; exact hH, hE.call hS hU hW⟩⟩ rfl hn hsize hstack (lv_room hW) hdg hf) hS (fun q _ h => h) (fun q h => h) (fun u t H1 locs1 ht hvm hw hB hz hk hS1 => ?_)
  cases hw
  rw [ht] at hB
  exact kk H1 locs1 hB hS1
theorem oa_csi (S : CallFix p m c cc nL s args Ts own) (hM : oa_Mi l y ws rm D ca ad b0 As M r M') (cw : CallB R s args own index y bytes maxL ret ws rm 0 0 n ∧ (Cond.static y).before args s = true) (hE : oa_E D ca b0 s) (hH : oa_H D ca ad M H) (hS : va_S (fun q => b0 ≤ q) s.heap H locs)
    (hn : As.length = n) (hsize : ls.size = nL) (hstack : st0 = As.reverse ++ rest) (hW : (rest.map fun v => v.category).sum ≤ 8) (hdg : decode cc pc = .ok (.invokestatic index, 3)) (hf : cells ≤ R.cells ∧ slots ≤ R.slots)
    (kk : ∀ (H1 : Heap) (locs1 : List Loc), oa_H D ca ad M' H1 → va_S (fun q => b0 ≤ q) s.heap H1 locs1 → W p l e R s m args below meth c H1 locs1 cells slots Q (F0 m (pc + 3) ls (.int r :: rest))) : W p l e R s m args below meth c H locs cells slots Q (F0 m pc ls st0) := by
  refine va_calli (va_runS (As := As) (rest := rest) S hM cw ⟨oa_blind D ca ad b0 M _, fun U hU hW => ⟨rfl, by rw [hU]; exact hH, hE.call hS hU hW⟩⟩ rfl hn hsize hstack (lv_room hW) hdg hf) hS (fun q _ h => h) (fun q h => h) (fun r9 u t H1 locs1 ht hvm hw hB hz hk hS1 => ?_)
  obtain ⟨rfl, rfl⟩ := hw
  rw [ht] at hB
  exact kk H1 locs1 hB hS1
theorem oa_cxv (S : CallFix p m c cc nL s args Ts own) {k i : Nat} {cd mc mc0 : Nat} {o2 : Nat × Int32 × oa_M} (hM : oa_Xv l y ws rm mc0 D ca ad b0 (.ref (ad k i) :: As) M (cd, M')) (cw : CallW R s args own C index y bytes maxL ret ws rm mc0 (6 * mc0) n) (hE : oa_E D ca b0 s) (hH : oa_H D ca ad M H) (hS : va_S (fun q => b0 ≤ q) s.heap H locs) (hrc : ∃ cell : Cell, H[ad k i]? = some cell ∧ cell.vm.isStatics = false ∧ s.vm.findClass C = some cell.cls)
    (hn : As.length = n) (hsize : ls.size = nL) (hstack : st0 = As.reverse ++ .ref (ad k i) :: rest) (hW : (rest.map fun v => v.category).sum ≤ 8) (hdg : decode cc pc = .ok (.invokevirtual index, 3)) (hf : cells + mc0 ≤ R.cells ∧ slots + 6 * mc0 ≤ R.slots) (hnt : ∀ x ∈ c.exceptionTable.toList, False) (hlocks : meth.locks = false) (hc : cells + mc0 ≤ mc) (hs : slots + 6 * mc0 ≤ 6 * mc) (hfx : cd ≠ 0 → o2 = (cd, 0, M'))
    (kk : cd = 0 → ∀ (H1 : Heap) (locs1 : List Loc), oa_H D ca ad M' H1 → va_S (fun q => b0 ≤ q) s.heap H1 locs1 → W p l e R s m args below meth c H1 locs1 (cells + mc0) (slots + 6 * mc0) (vx_MQ below (va_Qi (fun (r' : Int32) (u : oa_M) => o2.1 = 0 ∧ r' = o2.2.1 ∧ u = o2.2.2) (fun u t => oa_H D ca ad u t.heap) (fun q => b0 ≤ q)) (vx_X (fun u : oa_M => o2.1 ≠ 0 ∧ u = o2.2.2) (fun E u t => E = oa_x o2.1 ∧ oa_H D ca ad u t.heap) (fun q => b0 ≤ q)) args s mc (6 * mc) (fun q => b0 ≤ q)) (F0 m (pc + 3) ls rest)) :
    W p l e R s m args below meth c H locs cells slots (vx_MQ below (va_Qi (fun (r' : Int32) (u : oa_M) => o2.1 = 0 ∧ r' = o2.2.1 ∧ u = o2.2.2) (fun u t => oa_H D ca ad u t.heap) (fun q => b0 ≤ q)) (vx_X (fun u : oa_M => o2.1 ≠ 0 ∧ u = o2.2.2) (fun E u t => E = oa_x o2.1 ∧ oa_H D ca ad u t.heap) (fun q => b0 ≤ q)) args s mc (6 * mc) (fun q => b0 ≤ q)) (F0 m pc ls st0) := by
  refine vx_callv (vx_runV (As := As) (rest := rest) S hM cw ⟨oa_blind D ca ad b0 M _, hrc, fun U hU hW => ⟨rfl, by rw [hU]; exact hH, hE.call hS hU hW⟩⟩ rfl hn hsize hstack (lv_room hW) hdg hf) hS (fun q _ h => h) (fun q h => h) (fun q _ h => h) ?_ ?_
  · intro E ce q9 u t H1 locs1 ht hvm hpx hB hz hk hS1 hce hcv hcl
    obtain ⟨hcd, rfl⟩ := hpx
    obtain ⟨hX, hH1⟩ := hB
    rw [ht] at hH1
    have ho := hfx hcd
    subst ho
    exact vx_out (fun x hx => (hnt x hx).elim) hlocks hce hcv hcl (fun t ht _ => ⟨u, ⟨hcd, rfl⟩, ⟨hX, by rw [ht]; exact hH1⟩, hS1.F ht⟩) hS1.2.2 hc hs
  · intro u t H1 locs1 ht hvm hw hB hz hk hS1
    obtain ⟨hcd, rfl⟩ := hw
    rw [ht] at hB
    exact kk hcd H1 locs1 hB hS1
/-- a throw: new, dup, ldc, invokespecial, athrow -/
theorem oa_thr {own cls text X : String} {names : List String} {ik is ic mc ms : Nat} {Qc : Array Value → State → Outcome → State → Prop} {px : oa_M → Prop} (hexec : p.tables.exec = Jvm.exec) (hb : c.code = cc) (hl : l.stackTraces = false)
    (hown : s.vm.findClass own = some m.cls) (hcls : Bundle.fit cls = true) (hnames : ∀ n ∈ names, Bundle.fit n = true) (hk : (Cond.classLink own ik cls).before args s = true) (hini : (Cond.initialized cls).before args s = true) (hstr : ∃ sa, vk_R own is text sa s) (hat : ∀ w ∈ vx_atS own ic cls names, w.before args s = true)
    (hgood : ∀ w ∈ Cond.classLink own ik cls :: Cond.initialized cls :: vx_atS own ic cls names, vx_ot w = true) (hE : oa_E D ca b0 s) (hS : va_S (fun q => b0 ≤ q) s.heap H locs) (hH : oa_H D ca ad M H) (hsize : ls.size = c.maxLocals)
    (d0 : decode cc pc = .ok (.new ik, 3)) (d3 : decode cc (pc + 3) = .ok (.dup, 1)) (d4 : decode cc (pc + 4) = .ok (.ldc is, 2)) (d6 : decode cc (pc + 6) = .ok (.invokespecial ic, 3)) (d9 : decode cc (pc + 9) = .ok (.athrow, 1))
    (hnt : ∀ x ∈ c.exceptionTable.toList, False) (hRframes : names.length + 3 < R.frames) (hRlocals : (rest.map fun v => v.category).sum + (13 * (names.length + 1) + 43) ≤ R.locals) (hRcells : cells + 1 ≤ R.cells) (hRslots : slots + 6 ≤ R.slots) (hlocks : meth.locks = false) (hpx : px M) (hX : cls = X) (hc : cells + 1 ≤ mc) (hs : slots + 6 ≤ ms) :
    W p l e R s m args below meth c H locs cells slots (vx_MQ below Qc (vx_X px (fun E u t => E = X ∧ oa_H D ca ad u t.heap) (fun q => b0 ≤ q)) args s mc ms (fun q => b0 ≤ q)) (F0 m pc ls rest) := by
  obtain ⟨sa, hsa⟩ := hstr
  exact vx_throwS hexec hb hl hown hcls hnames hk hini hsa hat hgood hE.2.2.1 hE.2.2.2.1 hS hsize d0 d3 d4 d6 d9 (fun x hx => (hnt x hx).elim) hRframes hRlocals hRcells hRslots hlocks
    (fun t _ hz hq => ⟨M, hpx, ⟨hX, hH.kept hq⟩, Nat.le_trans hS.1 hz, fun q h1 h2 => (hq q (Nat.lt_of_lt_of_le h1 hS.1)).trans (hS.2.1 q h1 h2)⟩) hS.2.2 hc hs
end OAC
section OAX
variable {D : va_G} {ca : Nat → ClassId} {b0 : Nat} {s : State} {args : Array Value}
abbrev oa_nm : List String := ["java/lang/RuntimeException", "java/lang/Exception"]
def oa_bad (X : String) : List Cond := [.declares ⟨"java/lang/RuntimeException", "<init>", "(Ljava/lang/String;)V"⟩, .declares ⟨"java/lang/Exception", "<init>", "(Ljava/lang/String;)V"⟩, .declares ⟨"java/lang/Throwable", "<init>", "(Ljava/lang/String;)V"⟩, .castable X X]
theorem oa_badok (hE : oa_E D ca b0 s) {X : String} (hX : X ∈ oa_cn) : ∀ w ∈ oa_bad X, w.before args s = true :=
  vx_c (va_Nw.use rfl (hE.2.2.2.2.2.1 _ (by decide))) (vx_c (va_Nw.use rfl (hE.2.2.2.2.2.1 _ (by decide))) (vx_c (va_Nw.use rfl (hE.2.2.2.2.2.1 _ (by decide))) (vx_c (va_Nw.use rfl (hE.2.2.2.2.2.2 _ hX)) vx_n)))
theorem oa_g62 : ∀ w ∈ (vx_atS RX4 62 "java/lang/IllegalArgumentException" oa_nm).filter goodWord, w ∈ oa_T := by decide +kernel
theorem oa_g69 : ∀ w ∈ (vx_atS RX4 69 "java/lang/IllegalStateException" oa_nm).filter goodWord, w ∈ oa_T := by decide +kernel
theorem oa_g133 : ∀ w ∈ (vx_atS RX4 133 "java/lang/IndexOutOfBoundsException" oa_nm).filter goodWord, w ∈ oa_T := by decide +kernel
theorem oa_at62 (hts : ∀ w ∈ oa_T, w.before args s = true) (hE : oa_E D ca b0 s) : ∀ w ∈ vx_atS RX4 62 "java/lang/IllegalArgumentException" oa_nm, w.before args s = true := vx_hat (fun w h => hts w (oa_g62 w h)) (B := oa_bad "java/lang/IllegalArgumentException") (by decide +kernel) (oa_badok hE (by decide))
theorem oa_at69 (hts : ∀ w ∈ oa_T, w.before args s = true) (hE : oa_E D ca b0 s) : ∀ w ∈ vx_atS RX4 69 "java/lang/IllegalStateException" oa_nm, w.before args s = true := vx_hat (fun w h => hts w (oa_g69 w h)) (B := oa_bad "java/lang/IllegalStateException") (by decide +kernel) (oa_badok hE (by decide))
theorem oa_at133 (hts : ∀ w ∈ oa_T, w.before args s = true) (hE : oa_E D ca b0 s) : ∀ w ∈ vx_atS RX4 133 "java/lang/IndexOutOfBoundsException" oa_nm, w.before args s = true := vx_hat (fun w h => hts w (oa_g133 w h)) (B := oa_bad "java/lang/IndexOutOfBoundsException") (by decide +kernel) (oa_badok hE (by decide))
end OAX
end
section
theorem tw_0 : (Cond.selects RX4 yX4_readForm yX4_readForm) ∈ oa_T := oa_mem (i := 0) (by decide +kernel) (by decide +kernel)
theorem tw_2 : (Cond.selects RX4 yX4_findForm yX4_findForm) ∈ oa_T := oa_mem (i := 2) (by decide +kernel) (by decide +kernel)
theorem tw_3 : (Cond.selects RX4 yX4_requireAddress yX4_requireAddress) ∈ oa_T := oa_mem (i := 3) (by decide +kernel) (by decide +kernel)
theorem tw_4 : (Cond.selects RX4 yX4_requireReady yX4_requireReady) ∈ oa_T := oa_mem (i := 4) (by decide +kernel) (by decide +kernel)
theorem tw_5 : (Cond.selects RX4 yX4_narrowestAt yX4_narrowestAt) ∈ oa_T := oa_mem (i := 5) (by decide +kernel) (by decide +kernel)
theorem tw_6 : (Cond.selects RX4 yX4_wordAt yX4_wordAt) ∈ oa_T := oa_mem (i := 6) (by decide +kernel) (by decide +kernel)
theorem tw_7 : (Cond.selects RX4 yX4_operandAt yX4_operandAt) ∈ oa_T := oa_mem (i := 7) (by decide +kernel) (by decide +kernel)
theorem tw_8 : (Cond.selects RX4 yX4_writeInstruction yX4_writeInstruction) ∈ oa_T := oa_mem (i := 8) (by decide +kernel) (by decide +kernel)
theorem tw_9 : (Cond.selects RX4 yX4_readLine yX4_readLine) ∈ oa_T := oa_mem (i := 9) (by decide +kernel) (by decide +kernel)
theorem tw_10 : (Cond.selects RX4 yX4_readOperands yX4_readOperands) ∈ oa_T := oa_mem (i := 10) (by decide +kernel) (by decide +kernel)
theorem tw_11 : (Cond.selects RX4 yX4_findLabel yX4_findLabel) ∈ oa_T := oa_mem (i := 11) (by decide +kernel) (by decide +kernel)
theorem tw_12 : (Cond.selects RX4 yX4_chooseForms yX4_chooseForms) ∈ oa_T := oa_mem (i := 12) (by decide +kernel) (by decide +kernel)
theorem tw_13 : (Cond.selects RX4 yX4_firstWithUnknownLabel yX4_firstWithUnknownLabel) ∈ oa_T := oa_mem (i := 13) (by decide +kernel) (by decide +kernel)
theorem tw_14 : (Cond.selects RX4 yX4_placeLines yX4_placeLines) ∈ oa_T := oa_mem (i := 14) (by decide +kernel) (by decide +kernel)
theorem tw_15 : (Cond.selects RX4 yX4_firstUnfit yX4_firstUnfit) ∈ oa_T := oa_mem (i := 15) (by decide +kernel) (by decide +kernel)
theorem tw_16 : (Cond.selects RX4 yX4_fits yX4_fits) ∈ oa_T := oa_mem (i := 16) (by decide +kernel) (by decide +kernel)
theorem tw_17 : (Cond.selects RX4 yX4_wanted yX4_wanted) ∈ oa_T := oa_mem (i := 17) (by decide +kernel) (by decide +kernel)
theorem tw_18 : (Cond.selects RX4 yX4_putLines yX4_putLines) ∈ oa_T := oa_mem (i := 18) (by decide +kernel) (by decide +kernel)
theorem tw_19 : (Cond.selects RX4 yX4_putInstruction yX4_putInstruction) ∈ oa_T := oa_mem (i := 19) (by decide +kernel) (by decide +kernel)
theorem tw_20 : (Cond.selects RX5 yX5_readName yX5_readName) ∈ oa_T := oa_mem (i := 20) (by decide +kernel) (by decide +kernel)
theorem tw_21 : (Cond.selects RX5 yX5_here yX5_here) ∈ oa_T := oa_mem (i := 21) (by decide +kernel) (by decide +kernel)
theorem tw_22 : (Cond.selects RX5 yX5_must yX5_must) ∈ oa_T := oa_mem (i := 22) (by decide +kernel) (by decide +kernel)
theorem tw_23 : (Cond.selects RX5 yX5_readSigns yX5_readSigns) ∈ oa_T := oa_mem (i := 23) (by decide +kernel) (by decide +kernel)
theorem tw_24 : (Cond.selects RX5 yX5_signOf yX5_signOf) ∈ oa_T := oa_mem (i := 24) (by decide +kernel) (by decide +kernel)
theorem tw_25 : (Cond.selects RX5 yX5_formOf yX5_formOf) ∈ oa_T := oa_mem (i := 25) (by decide +kernel) (by decide +kernel)
theorem tw_26 : (Cond.selects RX5 yX5_clash yX5_clash) ∈ oa_T := oa_mem (i := 26) (by decide +kernel) (by decide +kernel)
theorem tw_27 : (Cond.selects RX5 yX5_fixed yX5_fixed) ∈ oa_T := oa_mem (i := 27) (by decide +kernel) (by decide +kernel)
theorem tw_28 : (Cond.selects RX5 yX5_isNarrower yX5_isNarrower) ∈ oa_T := oa_mem (i := 28) (by decide +kernel) (by decide +kernel)
theorem tw_29 : (Cond.selects RX5 yX5_wrongAddress yX5_wrongAddress) ∈ oa_T := oa_mem (i := 29) (by decide +kernel) (by decide +kernel)
theorem tw_30 : (Cond.selects RX5 yX5_decoded yX5_decoded) ∈ oa_T := oa_mem (i := 30) (by decide +kernel) (by decide +kernel)
theorem tw_31 : (Cond.selects RX5 yX5_matches yX5_matches) ∈ oa_T := oa_mem (i := 31) (by decide +kernel) (by decide +kernel)
theorem tw_32 : (Cond.selects RX5 yX5_bitAt yX5_bitAt) ∈ oa_T := oa_mem (i := 32) (by decide +kernel) (by decide +kernel)
theorem tw_33 : (Cond.selects RX5 yX5_valueOf yX5_valueOf) ∈ oa_T := oa_mem (i := 33) (by decide +kernel) (by decide +kernel)
theorem tw_34 : (Cond.selects RX5 yX5_add yX5_add) ∈ oa_T := oa_mem (i := 34) (by decide +kernel) (by decide +kernel)
theorem tw_35 : (Cond.selects RX5 yX5_addName yX5_addName) ∈ oa_T := oa_mem (i := 35) (by decide +kernel) (by decide +kernel)
theorem tw_36 : (Cond.selects RX5 yX5_addNumber yX5_addNumber) ∈ oa_T := oa_mem (i := 36) (by decide +kernel) (by decide +kernel)
theorem tw_37 : (Cond.selects RX5 yX5_readOperands yX5_readOperands) ∈ oa_T := oa_mem (i := 37) (by decide +kernel) (by decide +kernel)
theorem tw_38 : (Cond.selects RX5 yX5_readOperand yX5_readOperand) ∈ oa_T := oa_mem (i := 38) (by decide +kernel) (by decide +kernel)
theorem tw_39 : (Cond.selects RX5 yX5_missing yX5_missing) ∈ oa_T := oa_mem (i := 39) (by decide +kernel) (by decide +kernel)
theorem tw_40 : (Cond.selects RX5 yX5_lineOf yX5_lineOf) ∈ oa_T := oa_mem (i := 40) (by decide +kernel) (by decide +kernel)
theorem tw_41 : (Cond.selects RX5 yX5_laid yX5_laid) ∈ oa_T := oa_mem (i := 41) (by decide +kernel) (by decide +kernel)
theorem tw_42 : (Cond.selects RX5 yX5_fieldOf yX5_fieldOf) ∈ oa_T := oa_mem (i := 42) (by decide +kernel) (by decide +kernel)
theorem tw_44 : (Cond.initialized RX4) ∈ oa_T := oa_mem (i := 44) (by decide +kernel) (by decide +kernel)
theorem tw_45 : (Cond.initialized RX3) ∈ oa_T := oa_mem (i := 45) (by decide +kernel) (by decide +kernel)
theorem tw_46 : (Cond.initialized RX0) ∈ oa_T := oa_mem (i := 46) (by decide +kernel) (by decide +kernel)
theorem tw_47 : (Cond.initialized RX2) ∈ oa_T := oa_mem (i := 47) (by decide +kernel) (by decide +kernel)
theorem tw_49 : (Cond.initialized RX5) ∈ oa_T := oa_mem (i := 49) (by decide +kernel) (by decide +kernel)
theorem tw_50 : (Cond.initialized yJ6_bitCount_0f7a4.cls) ∈ oa_T := oa_mem (i := 50) (by decide +kernel) (by decide +kernel)
theorem tw_54 : (Cond.initialized "java/lang/IllegalArgumentException") ∈ oa_T := oa_mem (i := 54) (by decide +kernel) (by decide +kernel)
theorem tw_55 : (Cond.initialized "java/lang/IllegalStateException") ∈ oa_T := oa_mem (i := 55) (by decide +kernel) (by decide +kernel)
theorem tw_56 : (Cond.initialized "java/lang/IndexOutOfBoundsException") ∈ oa_T := oa_mem (i := 56) (by decide +kernel) (by decide +kernel)
theorem tw_57 : (Cond.initialized "java/util/NoSuchElementException") ∈ oa_T := oa_mem (i := 57) (by decide +kernel) (by decide +kernel)
theorem tw_72 : (Cond.fieldLink RX3 9 "OpcodeAtlas$Text" "chars" "[C") ∈ oa_T := oa_mem (i := 72) (by decide +kernel) (by decide +kernel)
theorem tw_73 : (Cond.fieldLink RX3 15 "OpcodeAtlas$Text" "length" "I") ∈ oa_T := oa_mem (i := 73) (by decide +kernel) (by decide +kernel)
theorem tw_74 : (Cond.fieldLink RX4 45 "OpcodeAtlas$Text" "length" "I") ∈ oa_T := oa_mem (i := 74) (by decide +kernel) (by decide +kernel)
theorem tw_75 : (Cond.fieldLink RX3 19 "OpcodeAtlas$Text" "next" "I") ∈ oa_T := oa_mem (i := 75) (by decide +kernel) (by decide +kernel)
theorem tw_98 : (Cond.fieldLink RX2 18 "OpcodeAtlas$Operand" "mask" "I") ∈ oa_T := oa_mem (i := 98) (by decide +kernel) (by decide +kernel)
theorem tw_99 : (Cond.fieldLink RX0 34 "OpcodeAtlas$Operand" "mask" "I") ∈ oa_T := oa_mem (i := 99) (by decide +kernel) (by decide +kernel)
theorem tw_100 : (Cond.fieldLink RX2 9 "OpcodeAtlas$Operand" "kind" "I") ∈ oa_T := oa_mem (i := 100) (by decide +kernel) (by decide +kernel)
theorem tw_101 : (Cond.fieldLink RX4 100 "OpcodeAtlas$Operand" "kind" "I") ∈ oa_T := oa_mem (i := 101) (by decide +kernel) (by decide +kernel)
theorem tw_102 : (Cond.fieldLink RX2 15 "OpcodeAtlas$Operand" "scale" "I") ∈ oa_T := oa_mem (i := 102) (by decide +kernel) (by decide +kernel)
theorem tw_103 : (Cond.fieldLink RX4 105 "OpcodeAtlas$Operand" "scale" "I") ∈ oa_T := oa_mem (i := 103) (by decide +kernel) (by decide +kernel)
theorem tw_104 : (Cond.fieldLink RX2 27 "OpcodeAtlas$Operand" "offset" "I") ∈ oa_T := oa_mem (i := 104) (by decide +kernel) (by decide +kernel)
theorem tw_105 : (Cond.fieldLink RX4 108 "OpcodeAtlas$Operand" "offset" "I") ∈ oa_T := oa_mem (i := 105) (by decide +kernel) (by decide +kernel)
theorem tw_116 : (Cond.fieldLink RX0 11 "OpcodeAtlas$Form" "operands" "[LOpcodeAtlas$Operand;") ∈ oa_T := oa_mem (i := 116) (by decide +kernel) (by decide +kernel)
theorem tw_117 : (Cond.fieldLink RX4 96 "OpcodeAtlas$Form" "operands" "[LOpcodeAtlas$Operand;") ∈ oa_T := oa_mem (i := 117) (by decide +kernel) (by decide +kernel)
theorem tw_118 : (Cond.fieldLink RX0 18 "OpcodeAtlas$Form" "name" "I") ∈ oa_T := oa_mem (i := 118) (by decide +kernel) (by decide +kernel)
theorem tw_119 : (Cond.fieldLink RX4 70 "OpcodeAtlas$Form" "name" "I") ∈ oa_T := oa_mem (i := 119) (by decide +kernel) (by decide +kernel)
theorem tw_120 : (Cond.fieldLink RX0 22 "OpcodeAtlas$Form" "bytes" "I") ∈ oa_T := oa_mem (i := 120) (by decide +kernel) (by decide +kernel)
theorem tw_121 : (Cond.fieldLink RX4 221 "OpcodeAtlas$Form" "bytes" "I") ∈ oa_T := oa_mem (i := 121) (by decide +kernel) (by decide +kernel)
theorem tw_122 : (Cond.fieldLink RX0 25 "OpcodeAtlas$Form" "fixedMask" "I") ∈ oa_T := oa_mem (i := 122) (by decide +kernel) (by decide +kernel)
theorem tw_123 : (Cond.fieldLink RX0 28 "OpcodeAtlas$Form" "fixedBits" "I") ∈ oa_T := oa_mem (i := 123) (by decide +kernel) (by decide +kernel)
theorem tw_124 : (Cond.fieldLink RX4 280 "OpcodeAtlas$Form" "fixedBits" "I") ∈ oa_T := oa_mem (i := 124) (by decide +kernel) (by decide +kernel)
theorem tw_125 : (Cond.fieldLink RX0 31 "OpcodeAtlas$Form" "operandCount" "I") ∈ oa_T := oa_mem (i := 125) (by decide +kernel) (by decide +kernel)
theorem tw_126 : (Cond.fieldLink RX4 73 "OpcodeAtlas$Form" "operandCount" "I") ∈ oa_T := oa_mem (i := 126) (by decide +kernel) (by decide +kernel)
theorem tw_148 : (Cond.fieldLink RX4 248 "OpcodeAtlas$Line" "labels" "[I") ∈ oa_T := oa_mem (i := 148) (by decide +kernel) (by decide +kernel)
theorem tw_150 : (Cond.fieldLink RX4 254 "OpcodeAtlas$Line" "numbers" "[I") ∈ oa_T := oa_mem (i := 150) (by decide +kernel) (by decide +kernel)
theorem tw_151 : (Cond.fieldLink RX4 155 "OpcodeAtlas$Line" "label" "I") ∈ oa_T := oa_mem (i := 151) (by decide +kernel) (by decide +kernel)
theorem tw_152 : (Cond.fieldLink RX4 240 "OpcodeAtlas$Line" "name" "I") ∈ oa_T := oa_mem (i := 152) (by decide +kernel) (by decide +kernel)
theorem tw_153 : (Cond.fieldLink RX4 241 "OpcodeAtlas$Line" "operandCount" "I") ∈ oa_T := oa_mem (i := 153) (by decide +kernel) (by decide +kernel)
theorem tw_154 : (Cond.fieldLink RX4 261 "OpcodeAtlas$Line" "address" "I") ∈ oa_T := oa_mem (i := 154) (by decide +kernel) (by decide +kernel)
theorem tw_155 : (Cond.fieldLink RX4 257 "OpcodeAtlas$Line" "form" "LOpcodeAtlas$Form;") ∈ oa_T := oa_mem (i := 155) (by decide +kernel) (by decide +kernel)
theorem tw_171 : (Cond.fieldLink RX4 10 "OpcodeAtlas" "typed" "LOpcodeAtlas$Text;") ∈ oa_T := oa_mem (i := 171) (by decide +kernel) (by decide +kernel)
theorem tw_172 : (Cond.fieldLink RX4 16 "OpcodeAtlas" "output" "LOpcodeAtlas$Text;") ∈ oa_T := oa_mem (i := 172) (by decide +kernel) (by decide +kernel)
theorem tw_173 : (Cond.fieldLink RX4 19 "OpcodeAtlas" "memory" "[I") ∈ oa_T := oa_mem (i := 173) (by decide +kernel) (by decide +kernel)
theorem tw_174 : (Cond.fieldLink RX4 25 "OpcodeAtlas" "forms" "[LOpcodeAtlas$Form;") ∈ oa_T := oa_mem (i := 174) (by decide +kernel) (by decide +kernel)
theorem tw_175 : (Cond.fieldLink RX4 32 "OpcodeAtlas" "lines" "[LOpcodeAtlas$Line;") ∈ oa_T := oa_mem (i := 175) (by decide +kernel) (by decide +kernel)
theorem tw_176 : (Cond.fieldLink RX4 48 "OpcodeAtlas" "formCount" "I") ∈ oa_T := oa_mem (i := 176) (by decide +kernel) (by decide +kernel)
theorem tw_177 : (Cond.fieldLink RX4 146 "OpcodeAtlas" "lineCount" "I") ∈ oa_T := oa_mem (i := 177) (by decide +kernel) (by decide +kernel)
theorem tw_178 : (Cond.fieldLink RX4 37 "OpcodeAtlas" "faultLine" "I") ∈ oa_T := oa_mem (i := 178) (by decide +kernel) (by decide +kernel)
theorem tw_179 : (Cond.fieldLink RX4 82 "OpcodeAtlas" "ready" "Z") ∈ oa_T := oa_mem (i := 179) (by decide +kernel) (by decide +kernel)
theorem tw_203 : (Cond.methodLink RX4 41 yX3_add) ∈ oa_T := oa_mem (i := 203) (by decide +kernel) (by decide +kernel)
theorem tw_204 : (Cond.instanceMethod yX3_add) ∈ oa_T := oa_mem (i := 204) (by decide +kernel) (by decide +kernel)
theorem tw_205 : (Cond.selects RX3 yX3_add yX3_add) ∈ oa_T := oa_mem (i := 205) (by decide +kernel) (by decide +kernel)
theorem tw_206 : (Cond.code yX3_add cX3_add 2 (some .boolean)) ∈ oa_T := oa_mem (i := 206) (by decide +kernel) (by decide +kernel)
theorem tw_211 : (Cond.methodLink RX4 115 yX0_clashesWith) ∈ oa_T := oa_mem (i := 211) (by decide +kernel) (by decide +kernel)
theorem tw_212 : (Cond.instanceMethod yX0_clashesWith) ∈ oa_T := oa_mem (i := 212) (by decide +kernel) (by decide +kernel)
theorem tw_213 : (Cond.selects RX0 yX0_clashesWith yX0_clashesWith) ∈ oa_T := oa_mem (i := 213) (by decide +kernel) (by decide +kernel)
theorem tw_214 : (Cond.code yX0_clashesWith cX0_clashesWith 3 (some .boolean)) ∈ oa_T := oa_mem (i := 214) (by decide +kernel) (by decide +kernel)
theorem tw_215 : (Cond.methodLink RX0 51 yX0_isNarrowerThan) ∈ oa_T := oa_mem (i := 215) (by decide +kernel) (by decide +kernel)
theorem tw_216 : (Cond.instanceMethod yX0_isNarrowerThan) ∈ oa_T := oa_mem (i := 216) (by decide +kernel) (by decide +kernel)
theorem tw_217 : (Cond.selects RX0 yX0_isNarrowerThan yX0_isNarrowerThan) ∈ oa_T := oa_mem (i := 217) (by decide +kernel) (by decide +kernel)
theorem tw_218 : (Cond.code yX0_isNarrowerThan cX0_isNarrowerThan 3 (some .boolean)) ∈ oa_T := oa_mem (i := 218) (by decide +kernel) (by decide +kernel)
theorem tw_219 : (Cond.methodLink RX0 41 yX0_agreesWith) ∈ oa_T := oa_mem (i := 219) (by decide +kernel) (by decide +kernel)
theorem tw_220 : (Cond.instanceMethod yX0_agreesWith) ∈ oa_T := oa_mem (i := 220) (by decide +kernel) (by decide +kernel)
theorem tw_221 : (Cond.selects RX0 yX0_agreesWith yX0_agreesWith) ∈ oa_T := oa_mem (i := 221) (by decide +kernel) (by decide +kernel)
theorem tw_222 : (Cond.code yX0_agreesWith cX0_agreesWith 2 (some .boolean)) ∈ oa_T := oa_mem (i := 222) (by decide +kernel) (by decide +kernel)
theorem tw_223 : (Cond.methodLink RX0 45 yJ6_bitCount_0f7a4) ∈ oa_T := oa_mem (i := 223) (by decide +kernel) (by decide +kernel)
theorem tw_224 : (Cond.static yJ6_bitCount_0f7a4) ∈ oa_T := oa_mem (i := 224) (by decide +kernel) (by decide +kernel)
theorem tw_225 : (Cond.code yJ6_bitCount_0f7a4 cJ6_bitCount_0f7a4 1 (some .int)) ∈ oa_T := oa_mem (i := 225) (by decide +kernel) (by decide +kernel)
theorem tw_226 : (Cond.constant RJ6 265 (1431655765 : Int32)) ∈ oa_T := oa_mem (i := 226) (by decide +kernel) (by decide +kernel)
theorem tw_227 : (Cond.constant RJ6 266 (858993459 : Int32)) ∈ oa_T := oa_mem (i := 227) (by decide +kernel) (by decide +kernel)
theorem tw_228 : (Cond.constant RJ6 267 (252645135 : Int32)) ∈ oa_T := oa_mem (i := 228) (by decide +kernel) (by decide +kernel)
theorem tw_233 : (Cond.methodLink RX4 142 yX3_at) ∈ oa_T := oa_mem (i := 233) (by decide +kernel) (by decide +kernel)
theorem tw_234 : (Cond.instanceMethod yX3_at) ∈ oa_T := oa_mem (i := 234) (by decide +kernel) (by decide +kernel)
theorem tw_235 : (Cond.selects RX3 yX3_at yX3_at) ∈ oa_T := oa_mem (i := 235) (by decide +kernel) (by decide +kernel)
theorem tw_236 : (Cond.code yX3_at cX3_at 2 (some .char)) ∈ oa_T := oa_mem (i := 236) (by decide +kernel) (by decide +kernel)
theorem tw_258 : (Cond.methodLink RX4 51 yX4_readForm) ∈ oa_T := oa_mem (i := 258) (by decide +kernel) (by decide +kernel)
theorem tw_260 : (Cond.instanceMethod yX4_readForm) ∈ oa_T := oa_mem (i := 260) (by decide +kernel) (by decide +kernel)
theorem tw_261 : (Cond.code yX4_readForm cX4_readForm 5 (some .boolean)) ∈ oa_T := oa_mem (i := 261) (by decide +kernel) (by decide +kernel)
theorem tw_262 : (Cond.methodLink RX4 193 yX3_takeName) ∈ oa_T := oa_mem (i := 262) (by decide +kernel) (by decide +kernel)
theorem tw_263 : (Cond.instanceMethod yX3_takeName) ∈ oa_T := oa_mem (i := 263) (by decide +kernel) (by decide +kernel)
theorem tw_264 : (Cond.selects RX3 yX3_takeName yX3_takeName) ∈ oa_T := oa_mem (i := 264) (by decide +kernel) (by decide +kernel)
theorem tw_265 : (Cond.code yX3_takeName cX3_takeName 3 (some .int)) ∈ oa_T := oa_mem (i := 265) (by decide +kernel) (by decide +kernel)
theorem tw_266 : (Cond.methodLink RX3 27 yX3_nextIsWithin) ∈ oa_T := oa_mem (i := 266) (by decide +kernel) (by decide +kernel)
theorem tw_267 : (Cond.instanceMethod yX3_nextIsWithin) ∈ oa_T := oa_mem (i := 267) (by decide +kernel) (by decide +kernel)
theorem tw_268 : (Cond.selects RX3 yX3_nextIsWithin yX3_nextIsWithin) ∈ oa_T := oa_mem (i := 268) (by decide +kernel) (by decide +kernel)
theorem tw_269 : (Cond.code yX3_nextIsWithin cX3_nextIsWithin 3 (some .boolean)) ∈ oa_T := oa_mem (i := 269) (by decide +kernel) (by decide +kernel)
theorem tw_270 : (Cond.methodLink RX3 35 yX3_takeAny) ∈ oa_T := oa_mem (i := 270) (by decide +kernel) (by decide +kernel)
theorem tw_271 : (Cond.instanceMethod yX3_takeAny) ∈ oa_T := oa_mem (i := 271) (by decide +kernel) (by decide +kernel)
theorem tw_272 : (Cond.selects RX3 yX3_takeAny yX3_takeAny) ∈ oa_T := oa_mem (i := 272) (by decide +kernel) (by decide +kernel)
theorem tw_273 : (Cond.code yX3_takeAny cX3_takeAny 2 (some .char)) ∈ oa_T := oa_mem (i := 273) (by decide +kernel) (by decide +kernel)
theorem tw_274 : (Cond.methodLink RX3 31 yX3_at) ∈ oa_T := oa_mem (i := 274) (by decide +kernel) (by decide +kernel)
theorem tw_275 : (Cond.methodLink RX4 196 yX3_take) ∈ oa_T := oa_mem (i := 275) (by decide +kernel) (by decide +kernel)
theorem tw_276 : (Cond.instanceMethod yX3_take) ∈ oa_T := oa_mem (i := 276) (by decide +kernel) (by decide +kernel)
theorem tw_277 : (Cond.selects RX3 yX3_take yX3_take) ∈ oa_T := oa_mem (i := 277) (by decide +kernel) (by decide +kernel)
theorem tw_278 : (Cond.code yX3_take cX3_take 2 (some .boolean)) ∈ oa_T := oa_mem (i := 278) (by decide +kernel) (by decide +kernel)
theorem tw_279 : (Cond.methodLink RX4 199 yX3_left) ∈ oa_T := oa_mem (i := 279) (by decide +kernel) (by decide +kernel)
theorem tw_280 : (Cond.instanceMethod yX3_left) ∈ oa_T := oa_mem (i := 280) (by decide +kernel) (by decide +kernel)
theorem tw_281 : (Cond.selects RX3 yX3_left yX3_left) ∈ oa_T := oa_mem (i := 281) (by decide +kernel) (by decide +kernel)
theorem tw_282 : (Cond.code yX3_left cX3_left 1 (some .int)) ∈ oa_T := oa_mem (i := 282) (by decide +kernel) (by decide +kernel)
theorem tw_283 : (Cond.methodLink RX4 202 yX0_begin) ∈ oa_T := oa_mem (i := 283) (by decide +kernel) (by decide +kernel)
theorem tw_284 : (Cond.instanceMethod yX0_begin) ∈ oa_T := oa_mem (i := 284) (by decide +kernel) (by decide +kernel)
theorem tw_285 : (Cond.selects RX0 yX0_begin yX0_begin) ∈ oa_T := oa_mem (i := 285) (by decide +kernel) (by decide +kernel)
theorem tw_286 : (Cond.code yX0_begin cX0_begin 4 none) ∈ oa_T := oa_mem (i := 286) (by decide +kernel) (by decide +kernel)
theorem tw_287 : (Cond.methodLink RX4 206 yX3_takeAny) ∈ oa_T := oa_mem (i := 287) (by decide +kernel) (by decide +kernel)
theorem tw_288 : (Cond.methodLink RX4 210 yX0_addSign) ∈ oa_T := oa_mem (i := 288) (by decide +kernel) (by decide +kernel)
theorem tw_289 : (Cond.instanceMethod yX0_addSign) ∈ oa_T := oa_mem (i := 289) (by decide +kernel) (by decide +kernel)
theorem tw_290 : (Cond.selects RX0 yX0_addSign yX0_addSign) ∈ oa_T := oa_mem (i := 290) (by decide +kernel) (by decide +kernel)
theorem tw_291 : (Cond.code yX0_addSign cX0_addSign 4 (some .boolean)) ∈ oa_T := oa_mem (i := 291) (by decide +kernel) (by decide +kernel)
theorem tw_292 : (Cond.methodLink RX4 214 yX0_countOperands) ∈ oa_T := oa_mem (i := 292) (by decide +kernel) (by decide +kernel)
theorem tw_293 : (Cond.instanceMethod yX0_countOperands) ∈ oa_T := oa_mem (i := 293) (by decide +kernel) (by decide +kernel)
theorem tw_294 : (Cond.selects RX0 yX0_countOperands yX0_countOperands) ∈ oa_T := oa_mem (i := 294) (by decide +kernel) (by decide +kernel)
theorem tw_295 : (Cond.code yX0_countOperands cX0_countOperands 3 (some .boolean)) ∈ oa_T := oa_mem (i := 295) (by decide +kernel) (by decide +kernel)
theorem tw_296 : (Cond.methodLink RX0 37 yX2_width) ∈ oa_T := oa_mem (i := 296) (by decide +kernel) (by decide +kernel)
theorem tw_297 : (Cond.instanceMethod yX2_width) ∈ oa_T := oa_mem (i := 297) (by decide +kernel) (by decide +kernel)
theorem tw_298 : (Cond.selects RX2 yX2_width yX2_width) ∈ oa_T := oa_mem (i := 298) (by decide +kernel) (by decide +kernel)
theorem tw_299 : (Cond.code yX2_width cX2_width 1 (some .int)) ∈ oa_T := oa_mem (i := 299) (by decide +kernel) (by decide +kernel)
theorem tw_300 : (Cond.methodLink RX2 21 yJ6_bitCount_0f7a4) ∈ oa_T := oa_mem (i := 300) (by decide +kernel) (by decide +kernel)
theorem tw_301 : (Cond.methodLink RX4 55 yX3_clear) ∈ oa_T := oa_mem (i := 301) (by decide +kernel) (by decide +kernel)
theorem tw_302 : (Cond.instanceMethod yX3_clear) ∈ oa_T := oa_mem (i := 302) (by decide +kernel) (by decide +kernel)
theorem tw_303 : (Cond.selects RX3 yX3_clear yX3_clear) ∈ oa_T := oa_mem (i := 303) (by decide +kernel) (by decide +kernel)
theorem tw_304 : (Cond.code yX3_clear cX3_clear 1 none) ∈ oa_T := oa_mem (i := 304) (by decide +kernel) (by decide +kernel)
theorem tw_305 : (Cond.classLink RX4 58 "java/lang/IllegalArgumentException") ∈ oa_T := oa_mem (i := 305) (by decide +kernel) (by decide +kernel)
theorem tw_374 : (Cond.classLink RX4 65 "java/lang/IllegalStateException") ∈ oa_T := oa_mem (i := 374) (by decide +kernel) (by decide +kernel)
theorem tw_390 : (Cond.methodLink RX4 76 yX4_findForm) ∈ oa_T := oa_mem (i := 390) (by decide +kernel) (by decide +kernel)
theorem tw_392 : (Cond.instanceMethod yX4_findForm) ∈ oa_T := oa_mem (i := 392) (by decide +kernel) (by decide +kernel)
theorem tw_393 : (Cond.code yX4_findForm cX4_findForm 4 (some .int)) ∈ oa_T := oa_mem (i := 393) (by decide +kernel) (by decide +kernel)
theorem tw_407 : (Cond.methodLink RX4 111 yX2_width) ∈ oa_T := oa_mem (i := 407) (by decide +kernel) (by decide +kernel)
theorem tw_416 : (Cond.methodLink RX4 118 yX4_requireAddress) ∈ oa_T := oa_mem (i := 416) (by decide +kernel) (by decide +kernel)
theorem tw_418 : (Cond.instanceMethod yX4_requireAddress) ∈ oa_T := oa_mem (i := 418) (by decide +kernel) (by decide +kernel)
theorem tw_419 : (Cond.code yX4_requireAddress cX4_requireAddress 2 none) ∈ oa_T := oa_mem (i := 419) (by decide +kernel) (by decide +kernel)
theorem tw_420 : (Cond.classLink RX4 129 "java/lang/IndexOutOfBoundsException") ∈ oa_T := oa_mem (i := 420) (by decide +kernel) (by decide +kernel)
theorem tw_450 : (Cond.methodLink RX4 122 yX4_requireReady) ∈ oa_T := oa_mem (i := 450) (by decide +kernel) (by decide +kernel)
theorem tw_452 : (Cond.instanceMethod yX4_requireReady) ∈ oa_T := oa_mem (i := 452) (by decide +kernel) (by decide +kernel)
theorem tw_453 : (Cond.code yX4_requireReady cX4_requireReady 1 none) ∈ oa_T := oa_mem (i := 453) (by decide +kernel) (by decide +kernel)
theorem tw_455 : (Cond.methodLink RX4 125 yX4_narrowestAt) ∈ oa_T := oa_mem (i := 455) (by decide +kernel) (by decide +kernel)
theorem tw_457 : (Cond.instanceMethod yX4_narrowestAt) ∈ oa_T := oa_mem (i := 457) (by decide +kernel) (by decide +kernel)
theorem tw_458 : (Cond.code yX4_narrowestAt cX4_narrowestAt 6 (some .int)) ∈ oa_T := oa_mem (i := 458) (by decide +kernel) (by decide +kernel)
theorem tw_459 : (Cond.methodLink RX4 218 yX4_wordAt) ∈ oa_T := oa_mem (i := 459) (by decide +kernel) (by decide +kernel)
theorem tw_461 : (Cond.instanceMethod yX4_wordAt) ∈ oa_T := oa_mem (i := 461) (by decide +kernel) (by decide +kernel)
theorem tw_462 : (Cond.code yX4_wordAt cX4_wordAt 5 (some .int)) ∈ oa_T := oa_mem (i := 462) (by decide +kernel) (by decide +kernel)
theorem tw_463 : (Cond.methodLink RX4 224 yX0_agreesWith) ∈ oa_T := oa_mem (i := 463) (by decide +kernel) (by decide +kernel)
theorem tw_464 : (Cond.methodLink RX4 228 yX0_isNarrowerThan) ∈ oa_T := oa_mem (i := 464) (by decide +kernel) (by decide +kernel)
theorem tw_473 : (Cond.methodLink RX4 134 yX4_operandAt) ∈ oa_T := oa_mem (i := 473) (by decide +kernel) (by decide +kernel)
theorem tw_475 : (Cond.instanceMethod yX4_operandAt) ∈ oa_T := oa_mem (i := 475) (by decide +kernel) (by decide +kernel)
theorem tw_476 : (Cond.code yX4_operandAt cX4_operandAt 4 (some .int)) ∈ oa_T := oa_mem (i := 476) (by decide +kernel) (by decide +kernel)
theorem tw_477 : (Cond.methodLink RX4 231 yX2_valueIn) ∈ oa_T := oa_mem (i := 477) (by decide +kernel) (by decide +kernel)
theorem tw_478 : (Cond.instanceMethod yX2_valueIn) ∈ oa_T := oa_mem (i := 478) (by decide +kernel) (by decide +kernel)
theorem tw_479 : (Cond.selects RX2 yX2_valueIn yX2_valueIn) ∈ oa_T := oa_mem (i := 479) (by decide +kernel) (by decide +kernel)
theorem tw_480 : (Cond.code yX2_valueIn cX2_valueIn 5 (some .int)) ∈ oa_T := oa_mem (i := 480) (by decide +kernel) (by decide +kernel)
theorem tw_481 : (Cond.methodLink RX2 37 yX2_highest) ∈ oa_T := oa_mem (i := 481) (by decide +kernel) (by decide +kernel)
theorem tw_482 : (Cond.instanceMethod yX2_highest) ∈ oa_T := oa_mem (i := 482) (by decide +kernel) (by decide +kernel)
theorem tw_483 : (Cond.selects RX2 yX2_highest yX2_highest) ∈ oa_T := oa_mem (i := 483) (by decide +kernel) (by decide +kernel)
theorem tw_484 : (Cond.code yX2_highest cX2_highest 1 (some .int)) ∈ oa_T := oa_mem (i := 484) (by decide +kernel) (by decide +kernel)
theorem tw_485 : (Cond.methodLink RX2 34 yX2_lowest) ∈ oa_T := oa_mem (i := 485) (by decide +kernel) (by decide +kernel)
theorem tw_486 : (Cond.instanceMethod yX2_lowest) ∈ oa_T := oa_mem (i := 486) (by decide +kernel) (by decide +kernel)
theorem tw_487 : (Cond.selects RX2 yX2_lowest yX2_lowest) ∈ oa_T := oa_mem (i := 487) (by decide +kernel) (by decide +kernel)
theorem tw_488 : (Cond.code yX2_lowest cX2_lowest 1 (some .int)) ∈ oa_T := oa_mem (i := 488) (by decide +kernel) (by decide +kernel)
theorem tw_489 : (Cond.methodLink RX2 30 yX2_width) ∈ oa_T := oa_mem (i := 489) (by decide +kernel) (by decide +kernel)
theorem tw_490 : (Cond.methodLink RX2 40 yX2_base) ∈ oa_T := oa_mem (i := 490) (by decide +kernel) (by decide +kernel)
theorem tw_491 : (Cond.instanceMethod yX2_base) ∈ oa_T := oa_mem (i := 491) (by decide +kernel) (by decide +kernel)
theorem tw_492 : (Cond.selects RX2 yX2_base yX2_base) ∈ oa_T := oa_mem (i := 492) (by decide +kernel) (by decide +kernel)
theorem tw_493 : (Cond.code yX2_base cX2_base 2 (some .int)) ∈ oa_T := oa_mem (i := 493) (by decide +kernel) (by decide +kernel)
theorem tw_501 : (Cond.methodLink RX4 138 yX4_writeInstruction) ∈ oa_T := oa_mem (i := 501) (by decide +kernel) (by decide +kernel)
theorem tw_503 : (Cond.instanceMethod yX4_writeInstruction) ∈ oa_T := oa_mem (i := 503) (by decide +kernel) (by decide +kernel)
theorem tw_504 : (Cond.code yX4_writeInstruction cX4_writeInstruction 4 none) ∈ oa_T := oa_mem (i := 504) (by decide +kernel) (by decide +kernel)
theorem tw_505 : (Cond.methodLink RX4 234 yX3_addName) ∈ oa_T := oa_mem (i := 505) (by decide +kernel) (by decide +kernel)
theorem tw_506 : (Cond.instanceMethod yX3_addName) ∈ oa_T := oa_mem (i := 506) (by decide +kernel) (by decide +kernel)
theorem tw_507 : (Cond.selects RX3 yX3_addName yX3_addName) ∈ oa_T := oa_mem (i := 507) (by decide +kernel) (by decide +kernel)
theorem tw_508 : (Cond.code yX3_addName cX3_addName 4 none) ∈ oa_T := oa_mem (i := 508) (by decide +kernel) (by decide +kernel)
theorem tw_509 : (Cond.methodLink RX3 22 yX3_add) ∈ oa_T := oa_mem (i := 509) (by decide +kernel) (by decide +kernel)
theorem tw_510 : (Cond.methodLink RX4 237 yX3_addNumber) ∈ oa_T := oa_mem (i := 510) (by decide +kernel) (by decide +kernel)
theorem tw_511 : (Cond.instanceMethod yX3_addNumber) ∈ oa_T := oa_mem (i := 511) (by decide +kernel) (by decide +kernel)
theorem tw_512 : (Cond.selects RX3 yX3_addNumber yX3_addNumber) ∈ oa_T := oa_mem (i := 512) (by decide +kernel) (by decide +kernel)
theorem tw_513 : (Cond.code yX3_addNumber cX3_addNumber 4 none) ∈ oa_T := oa_mem (i := 513) (by decide +kernel) (by decide +kernel)
theorem tw_514 : (Cond.constant RX3 26 (100000 : Int32)) ∈ oa_T := oa_mem (i := 514) (by decide +kernel) (by decide +kernel)
theorem tw_522 : (Cond.methodLink RX4 149 yX4_readLine) ∈ oa_T := oa_mem (i := 522) (by decide +kernel) (by decide +kernel)
theorem tw_524 : (Cond.instanceMethod yX4_readLine) ∈ oa_T := oa_mem (i := 524) (by decide +kernel) (by decide +kernel)
theorem tw_525 : (Cond.code yX4_readLine cX4_readLine 2 (some .boolean)) ∈ oa_T := oa_mem (i := 525) (by decide +kernel) (by decide +kernel)
theorem tw_526 : (Cond.methodLink RX4 242 yX3_takeLabel) ∈ oa_T := oa_mem (i := 526) (by decide +kernel) (by decide +kernel)
theorem tw_527 : (Cond.instanceMethod yX3_takeLabel) ∈ oa_T := oa_mem (i := 527) (by decide +kernel) (by decide +kernel)
theorem tw_528 : (Cond.selects RX3 yX3_takeLabel yX3_takeLabel) ∈ oa_T := oa_mem (i := 528) (by decide +kernel) (by decide +kernel)
theorem tw_529 : (Cond.code yX3_takeLabel cX3_takeLabel 1 (some .int)) ∈ oa_T := oa_mem (i := 529) (by decide +kernel) (by decide +kernel)
theorem tw_530 : (Cond.methodLink RX4 245 yX4_readOperands) ∈ oa_T := oa_mem (i := 530) (by decide +kernel) (by decide +kernel)
theorem tw_532 : (Cond.instanceMethod yX4_readOperands) ∈ oa_T := oa_mem (i := 532) (by decide +kernel) (by decide +kernel)
theorem tw_533 : (Cond.code yX4_readOperands cX4_readOperands 5 (some .boolean)) ∈ oa_T := oa_mem (i := 533) (by decide +kernel) (by decide +kernel)
theorem tw_534 : (Cond.methodLink RX4 251 yX3_takeDigits) ∈ oa_T := oa_mem (i := 534) (by decide +kernel) (by decide +kernel)
theorem tw_535 : (Cond.instanceMethod yX3_takeDigits) ∈ oa_T := oa_mem (i := 535) (by decide +kernel) (by decide +kernel)
theorem tw_536 : (Cond.selects RX3 yX3_takeDigits yX3_takeDigits) ∈ oa_T := oa_mem (i := 536) (by decide +kernel) (by decide +kernel)
theorem tw_537 : (Cond.code yX3_takeDigits cX3_takeDigits 3 (some .int)) ∈ oa_T := oa_mem (i := 537) (by decide +kernel) (by decide +kernel)
theorem tw_539 : (Cond.methodLink RX4 158 yX4_findLabel) ∈ oa_T := oa_mem (i := 539) (by decide +kernel) (by decide +kernel)
theorem tw_541 : (Cond.instanceMethod yX4_findLabel) ∈ oa_T := oa_mem (i := 541) (by decide +kernel) (by decide +kernel)
theorem tw_542 : (Cond.code yX4_findLabel cX4_findLabel 3 (some .int)) ∈ oa_T := oa_mem (i := 542) (by decide +kernel) (by decide +kernel)
theorem tw_553 : (Cond.methodLink RX4 165 yX4_chooseForms) ∈ oa_T := oa_mem (i := 553) (by decide +kernel) (by decide +kernel)
theorem tw_555 : (Cond.instanceMethod yX4_chooseForms) ∈ oa_T := oa_mem (i := 555) (by decide +kernel) (by decide +kernel)
theorem tw_556 : (Cond.code yX4_chooseForms cX4_chooseForms 5 (some .int)) ∈ oa_T := oa_mem (i := 556) (by decide +kernel) (by decide +kernel)
theorem tw_557 : (Cond.methodLink RX4 168 yX4_firstWithUnknownLabel) ∈ oa_T := oa_mem (i := 557) (by decide +kernel) (by decide +kernel)
theorem tw_559 : (Cond.instanceMethod yX4_firstWithUnknownLabel) ∈ oa_T := oa_mem (i := 559) (by decide +kernel) (by decide +kernel)
theorem tw_560 : (Cond.code yX4_firstWithUnknownLabel cX4_firstWithUnknownLabel 4 (some .int)) ∈ oa_T := oa_mem (i := 560) (by decide +kernel) (by decide +kernel)
theorem tw_561 : (Cond.classLink RX4 171 "java/util/NoSuchElementException") ∈ oa_T := oa_mem (i := 561) (by decide +kernel) (by decide +kernel)
theorem tw_577 : (Cond.methodLink RX4 176 yX4_placeLines) ∈ oa_T := oa_mem (i := 577) (by decide +kernel) (by decide +kernel)
theorem tw_579 : (Cond.instanceMethod yX4_placeLines) ∈ oa_T := oa_mem (i := 579) (by decide +kernel) (by decide +kernel)
theorem tw_580 : (Cond.code yX4_placeLines cX4_placeLines 4 (some .int)) ∈ oa_T := oa_mem (i := 580) (by decide +kernel) (by decide +kernel)
theorem tw_582 : (Cond.methodLink RX4 181 yX4_firstUnfit) ∈ oa_T := oa_mem (i := 582) (by decide +kernel) (by decide +kernel)
theorem tw_584 : (Cond.instanceMethod yX4_firstUnfit) ∈ oa_T := oa_mem (i := 584) (by decide +kernel) (by decide +kernel)
theorem tw_585 : (Cond.code yX4_firstUnfit cX4_firstUnfit 2 (some .int)) ∈ oa_T := oa_mem (i := 585) (by decide +kernel) (by decide +kernel)
theorem tw_586 : (Cond.methodLink RX4 264 yX4_fits) ∈ oa_T := oa_mem (i := 586) (by decide +kernel) (by decide +kernel)
theorem tw_588 : (Cond.instanceMethod yX4_fits) ∈ oa_T := oa_mem (i := 588) (by decide +kernel) (by decide +kernel)
theorem tw_589 : (Cond.code yX4_fits cX4_fits 4 (some .boolean)) ∈ oa_T := oa_mem (i := 589) (by decide +kernel) (by decide +kernel)
theorem tw_590 : (Cond.methodLink RX4 268 yX4_wanted) ∈ oa_T := oa_mem (i := 590) (by decide +kernel) (by decide +kernel)
theorem tw_592 : (Cond.instanceMethod yX4_wanted) ∈ oa_T := oa_mem (i := 592) (by decide +kernel) (by decide +kernel)
theorem tw_593 : (Cond.code yX4_wanted cX4_wanted 4 (some .int)) ∈ oa_T := oa_mem (i := 593) (by decide +kernel) (by decide +kernel)
theorem tw_594 : (Cond.methodLink RX4 272 yX2_reaches) ∈ oa_T := oa_mem (i := 594) (by decide +kernel) (by decide +kernel)
theorem tw_595 : (Cond.instanceMethod yX2_reaches) ∈ oa_T := oa_mem (i := 595) (by decide +kernel) (by decide +kernel)
theorem tw_596 : (Cond.selects RX2 yX2_reaches yX2_reaches) ∈ oa_T := oa_mem (i := 596) (by decide +kernel) (by decide +kernel)
theorem tw_597 : (Cond.code yX2_reaches cX2_reaches 5 (some .boolean)) ∈ oa_T := oa_mem (i := 597) (by decide +kernel) (by decide +kernel)
theorem tw_599 : (Cond.methodLink RX4 186 yX4_putLines) ∈ oa_T := oa_mem (i := 599) (by decide +kernel) (by decide +kernel)
theorem tw_601 : (Cond.instanceMethod yX4_putLines) ∈ oa_T := oa_mem (i := 601) (by decide +kernel) (by decide +kernel)
theorem tw_602 : (Cond.code yX4_putLines cX4_putLines 2 none) ∈ oa_T := oa_mem (i := 602) (by decide +kernel) (by decide +kernel)
theorem tw_603 : (Cond.methodLink RX4 276 yX4_putInstruction) ∈ oa_T := oa_mem (i := 603) (by decide +kernel) (by decide +kernel)
theorem tw_605 : (Cond.instanceMethod yX4_putInstruction) ∈ oa_T := oa_mem (i := 605) (by decide +kernel) (by decide +kernel)
theorem tw_606 : (Cond.code yX4_putInstruction cX4_putInstruction 6 none) ∈ oa_T := oa_mem (i := 606) (by decide +kernel) (by decide +kernel)
theorem tw_607 : (Cond.methodLink RX4 283 yX2_bitsFor) ∈ oa_T := oa_mem (i := 607) (by decide +kernel) (by decide +kernel)
theorem tw_608 : (Cond.instanceMethod yX2_bitsFor) ∈ oa_T := oa_mem (i := 608) (by decide +kernel) (by decide +kernel)
theorem tw_609 : (Cond.selects RX2 yX2_bitsFor yX2_bitsFor) ∈ oa_T := oa_mem (i := 609) (by decide +kernel) (by decide +kernel)
theorem tw_610 : (Cond.code yX2_bitsFor cX2_bitsFor 6 (some .int)) ∈ oa_T := oa_mem (i := 610) (by decide +kernel) (by decide +kernel)
theorem tw_617 : (Cond.fieldLink RX5 85 "OpcodeAtlasModel" "length" "I") ∈ oa_T := oa_mem (i := 617) (by decide +kernel) (by decide +kernel)
theorem tw_618 : (Cond.fieldLink RX5 7 "OpcodeAtlasModel" "text" "[C") ∈ oa_T := oa_mem (i := 618) (by decide +kernel) (by decide +kernel)
theorem tw_619 : (Cond.fieldLink RX5 88 "OpcodeAtlasModel" "at" "I") ∈ oa_T := oa_mem (i := 619) (by decide +kernel) (by decide +kernel)
theorem tw_620 : (Cond.fieldLink RX5 91 "OpcodeAtlasModel" "bad" "Z") ∈ oa_T := oa_mem (i := 620) (by decide +kernel) (by decide +kernel)
theorem tw_621 : (Cond.fieldLink RX5 107 "OpcodeAtlasModel" "forms" "I") ∈ oa_T := oa_mem (i := 621) (by decide +kernel) (by decide +kernel)
theorem tw_622 : (Cond.fieldLink RX5 13 "OpcodeAtlasModel" "formName" "[I") ∈ oa_T := oa_mem (i := 622) (by decide +kernel) (by decide +kernel)
theorem tw_623 : (Cond.fieldLink RX5 17 "OpcodeAtlasModel" "signs" "[I") ∈ oa_T := oa_mem (i := 623) (by decide +kernel) (by decide +kernel)
theorem tw_624 : (Cond.fieldLink RX5 20 "OpcodeAtlasModel" "sign" "[I") ∈ oa_T := oa_mem (i := 624) (by decide +kernel) (by decide +kernel)
theorem tw_625 : (Cond.fieldLink RX5 23 "OpcodeAtlasModel" "operands" "[I") ∈ oa_T := oa_mem (i := 625) (by decide +kernel) (by decide +kernel)
theorem tw_626 : (Cond.fieldLink RX5 26 "OpcodeAtlasModel" "bits" "[I") ∈ oa_T := oa_mem (i := 626) (by decide +kernel) (by decide +kernel)
theorem tw_627 : (Cond.fieldLink RX5 29 "OpcodeAtlasModel" "kind" "[I") ∈ oa_T := oa_mem (i := 627) (by decide +kernel) (by decide +kernel)
theorem tw_628 : (Cond.fieldLink RX5 32 "OpcodeAtlasModel" "scale" "[I") ∈ oa_T := oa_mem (i := 628) (by decide +kernel) (by decide +kernel)
theorem tw_629 : (Cond.fieldLink RX5 35 "OpcodeAtlasModel" "offset" "[I") ∈ oa_T := oa_mem (i := 629) (by decide +kernel) (by decide +kernel)
theorem tw_630 : (Cond.fieldLink RX5 124 "OpcodeAtlasModel" "ready" "Z") ∈ oa_T := oa_mem (i := 630) (by decide +kernel) (by decide +kernel)
theorem tw_631 : (Cond.fieldLink RX5 38 "OpcodeAtlasModel" "newSign" "[I") ∈ oa_T := oa_mem (i := 631) (by decide +kernel) (by decide +kernel)
theorem tw_632 : (Cond.fieldLink RX5 41 "OpcodeAtlasModel" "newBits" "[I") ∈ oa_T := oa_mem (i := 632) (by decide +kernel) (by decide +kernel)
theorem tw_633 : (Cond.fieldLink RX5 44 "OpcodeAtlasModel" "memory" "[I") ∈ oa_T := oa_mem (i := 633) (by decide +kernel) (by decide +kernel)
theorem tw_634 : (Cond.fieldLink RX5 181 "OpcodeAtlasModel" "lines" "I") ∈ oa_T := oa_mem (i := 634) (by decide +kernel) (by decide +kernel)
theorem tw_635 : (Cond.fieldLink RX5 47 "OpcodeAtlasModel" "label" "[I") ∈ oa_T := oa_mem (i := 635) (by decide +kernel) (by decide +kernel)
theorem tw_636 : (Cond.fieldLink RX5 50 "OpcodeAtlasModel" "lineName" "[I") ∈ oa_T := oa_mem (i := 636) (by decide +kernel) (by decide +kernel)
theorem tw_637 : (Cond.fieldLink RX5 53 "OpcodeAtlasModel" "many" "[I") ∈ oa_T := oa_mem (i := 637) (by decide +kernel) (by decide +kernel)
theorem tw_638 : (Cond.fieldLink RX5 56 "OpcodeAtlasModel" "number" "[I") ∈ oa_T := oa_mem (i := 638) (by decide +kernel) (by decide +kernel)
theorem tw_639 : (Cond.fieldLink RX5 59 "OpcodeAtlasModel" "isLabel" "[Z") ∈ oa_T := oa_mem (i := 639) (by decide +kernel) (by decide +kernel)
theorem tw_640 : (Cond.fieldLink RX5 63 "OpcodeAtlasModel" "newNumber" "[I") ∈ oa_T := oa_mem (i := 640) (by decide +kernel) (by decide +kernel)
theorem tw_641 : (Cond.fieldLink RX5 66 "OpcodeAtlasModel" "newIsLabel" "[Z") ∈ oa_T := oa_mem (i := 641) (by decide +kernel) (by decide +kernel)
theorem tw_642 : (Cond.fieldLink RX5 69 "OpcodeAtlasModel" "address" "[I") ∈ oa_T := oa_mem (i := 642) (by decide +kernel) (by decide +kernel)
theorem tw_643 : (Cond.fieldLink RX5 72 "OpcodeAtlasModel" "put" "[I") ∈ oa_T := oa_mem (i := 643) (by decide +kernel) (by decide +kernel)
theorem tw_644 : (Cond.fieldLink RX5 75 "OpcodeAtlasModel" "faulty" "I") ∈ oa_T := oa_mem (i := 644) (by decide +kernel) (by decide +kernel)
theorem tw_645 : (Cond.fieldLink RX5 157 "OpcodeAtlasModel" "size" "I") ∈ oa_T := oa_mem (i := 645) (by decide +kernel) (by decide +kernel)
theorem tw_646 : (Cond.fieldLink RX5 79 "OpcodeAtlasModel" "out" "[C") ∈ oa_T := oa_mem (i := 646) (by decide +kernel) (by decide +kernel)
theorem tw_647 : (Cond.fieldLink RX5 82 "OpcodeAtlasModel" "thrown" "I") ∈ oa_T := oa_mem (i := 647) (by decide +kernel) (by decide +kernel)
theorem tw_724 : (Cond.methodLink RX5 110 yX5_readName) ∈ oa_T := oa_mem (i := 724) (by decide +kernel) (by decide +kernel)
theorem tw_726 : (Cond.instanceMethod yX5_readName) ∈ oa_T := oa_mem (i := 726) (by decide +kernel) (by decide +kernel)
theorem tw_727 : (Cond.code yX5_readName cX5_readName 3 (some .int)) ∈ oa_T := oa_mem (i := 727) (by decide +kernel) (by decide +kernel)
theorem tw_728 : (Cond.methodLink RX5 95 yX5_here) ∈ oa_T := oa_mem (i := 728) (by decide +kernel) (by decide +kernel)
theorem tw_730 : (Cond.instanceMethod yX5_here) ∈ oa_T := oa_mem (i := 730) (by decide +kernel) (by decide +kernel)
theorem tw_731 : (Cond.code yX5_here cX5_here 1 (some .int)) ∈ oa_T := oa_mem (i := 731) (by decide +kernel) (by decide +kernel)
theorem tw_732 : (Cond.methodLink RX5 99 yX5_isLetter) ∈ oa_T := oa_mem (i := 732) (by decide +kernel) (by decide +kernel)
theorem tw_733 : (Cond.static yX5_isLetter) ∈ oa_T := oa_mem (i := 733) (by decide +kernel) (by decide +kernel)
theorem tw_734 : (Cond.code yX5_isLetter cX5_isLetter 1 (some .boolean)) ∈ oa_T := oa_mem (i := 734) (by decide +kernel) (by decide +kernel)
theorem tw_735 : (Cond.methodLink RX5 113 yX5_must) ∈ oa_T := oa_mem (i := 735) (by decide +kernel) (by decide +kernel)
theorem tw_737 : (Cond.instanceMethod yX5_must) ∈ oa_T := oa_mem (i := 737) (by decide +kernel) (by decide +kernel)
theorem tw_738 : (Cond.code yX5_must cX5_must 2 none) ∈ oa_T := oa_mem (i := 738) (by decide +kernel) (by decide +kernel)
theorem tw_739 : (Cond.methodLink RX5 117 yX5_readSigns) ∈ oa_T := oa_mem (i := 739) (by decide +kernel) (by decide +kernel)
theorem tw_741 : (Cond.instanceMethod yX5_readSigns) ∈ oa_T := oa_mem (i := 741) (by decide +kernel) (by decide +kernel)
theorem tw_742 : (Cond.code yX5_readSigns cX5_readSigns 4 (some .int)) ∈ oa_T := oa_mem (i := 742) (by decide +kernel) (by decide +kernel)
theorem tw_743 : (Cond.methodLink RX5 103 yX5_signOf) ∈ oa_T := oa_mem (i := 743) (by decide +kernel) (by decide +kernel)
theorem tw_745 : (Cond.instanceMethod yX5_signOf) ∈ oa_T := oa_mem (i := 745) (by decide +kernel) (by decide +kernel)
theorem tw_746 : (Cond.code yX5_signOf cX5_signOf 2 (some .int)) ∈ oa_T := oa_mem (i := 746) (by decide +kernel) (by decide +kernel)
theorem tw_747 : (Cond.methodLink RX5 120 yX5_formOf) ∈ oa_T := oa_mem (i := 747) (by decide +kernel) (by decide +kernel)
theorem tw_749 : (Cond.instanceMethod yX5_formOf) ∈ oa_T := oa_mem (i := 749) (by decide +kernel) (by decide +kernel)
theorem tw_750 : (Cond.code yX5_formOf cX5_formOf 4 (some .int)) ∈ oa_T := oa_mem (i := 750) (by decide +kernel) (by decide +kernel)
theorem tw_755 : (Cond.methodLink RX5 127 yX5_outside) ∈ oa_T := oa_mem (i := 755) (by decide +kernel) (by decide +kernel)
theorem tw_756 : (Cond.static yX5_outside) ∈ oa_T := oa_mem (i := 756) (by decide +kernel) (by decide +kernel)
theorem tw_757 : (Cond.code yX5_outside cX5_outside 3 (some .boolean)) ∈ oa_T := oa_mem (i := 757) (by decide +kernel) (by decide +kernel)
theorem tw_762 : (Cond.methodLink RX5 138 yX5_clash) ∈ oa_T := oa_mem (i := 762) (by decide +kernel) (by decide +kernel)
theorem tw_764 : (Cond.instanceMethod yX5_clash) ∈ oa_T := oa_mem (i := 764) (by decide +kernel) (by decide +kernel)
theorem tw_765 : (Cond.code yX5_clash cX5_clash 6 (some .boolean)) ∈ oa_T := oa_mem (i := 765) (by decide +kernel) (by decide +kernel)
theorem tw_766 : (Cond.methodLink RX5 131 yX5_fixed) ∈ oa_T := oa_mem (i := 766) (by decide +kernel) (by decide +kernel)
theorem tw_768 : (Cond.instanceMethod yX5_fixed) ∈ oa_T := oa_mem (i := 768) (by decide +kernel) (by decide +kernel)
theorem tw_769 : (Cond.code yX5_fixed cX5_fixed 3 (some .int)) ∈ oa_T := oa_mem (i := 769) (by decide +kernel) (by decide +kernel)
theorem tw_770 : (Cond.methodLink RX5 134 yX5_isNarrower) ∈ oa_T := oa_mem (i := 770) (by decide +kernel) (by decide +kernel)
theorem tw_772 : (Cond.instanceMethod yX5_isNarrower) ∈ oa_T := oa_mem (i := 772) (by decide +kernel) (by decide +kernel)
theorem tw_773 : (Cond.code yX5_isNarrower cX5_isNarrower 8 (some .boolean)) ∈ oa_T := oa_mem (i := 773) (by decide +kernel) (by decide +kernel)
theorem tw_786 : (Cond.methodLink RX5 147 yX5_wrongAddress) ∈ oa_T := oa_mem (i := 786) (by decide +kernel) (by decide +kernel)
theorem tw_788 : (Cond.instanceMethod yX5_wrongAddress) ∈ oa_T := oa_mem (i := 788) (by decide +kernel) (by decide +kernel)
theorem tw_789 : (Cond.code yX5_wrongAddress cX5_wrongAddress 2 (some .int)) ∈ oa_T := oa_mem (i := 789) (by decide +kernel) (by decide +kernel)
theorem tw_790 : (Cond.methodLink RX5 150 yX5_decoded) ∈ oa_T := oa_mem (i := 790) (by decide +kernel) (by decide +kernel)
theorem tw_792 : (Cond.instanceMethod yX5_decoded) ∈ oa_T := oa_mem (i := 792) (by decide +kernel) (by decide +kernel)
theorem tw_793 : (Cond.code yX5_decoded cX5_decoded 4 (some .int)) ∈ oa_T := oa_mem (i := 793) (by decide +kernel) (by decide +kernel)
theorem tw_794 : (Cond.methodLink RX5 144 yX5_matches) ∈ oa_T := oa_mem (i := 794) (by decide +kernel) (by decide +kernel)
theorem tw_796 : (Cond.instanceMethod yX5_matches) ∈ oa_T := oa_mem (i := 796) (by decide +kernel) (by decide +kernel)
theorem tw_797 : (Cond.code yX5_matches cX5_matches 4 (some .boolean)) ∈ oa_T := oa_mem (i := 797) (by decide +kernel) (by decide +kernel)
theorem tw_798 : (Cond.methodLink RX5 141 yX5_bitAt) ∈ oa_T := oa_mem (i := 798) (by decide +kernel) (by decide +kernel)
theorem tw_800 : (Cond.instanceMethod yX5_bitAt) ∈ oa_T := oa_mem (i := 800) (by decide +kernel) (by decide +kernel)
theorem tw_801 : (Cond.code yX5_bitAt cX5_bitAt 3 (some .int)) ∈ oa_T := oa_mem (i := 801) (by decide +kernel) (by decide +kernel)
theorem tw_806 : (Cond.methodLink RX5 153 yX5_valueOf) ∈ oa_T := oa_mem (i := 806) (by decide +kernel) (by decide +kernel)
theorem tw_808 : (Cond.instanceMethod yX5_valueOf) ∈ oa_T := oa_mem (i := 808) (by decide +kernel) (by decide +kernel)
theorem tw_809 : (Cond.code yX5_valueOf cX5_valueOf 8 (some .int)) ∈ oa_T := oa_mem (i := 809) (by decide +kernel) (by decide +kernel)
theorem tw_814 : (Cond.methodLink RX5 160 yX5_add) ∈ oa_T := oa_mem (i := 814) (by decide +kernel) (by decide +kernel)
theorem tw_816 : (Cond.instanceMethod yX5_add) ∈ oa_T := oa_mem (i := 816) (by decide +kernel) (by decide +kernel)
theorem tw_817 : (Cond.code yX5_add cX5_add 2 none) ∈ oa_T := oa_mem (i := 817) (by decide +kernel) (by decide +kernel)
theorem tw_818 : (Cond.methodLink RX5 163 yX5_addName) ∈ oa_T := oa_mem (i := 818) (by decide +kernel) (by decide +kernel)
theorem tw_820 : (Cond.instanceMethod yX5_addName) ∈ oa_T := oa_mem (i := 820) (by decide +kernel) (by decide +kernel)
theorem tw_821 : (Cond.code yX5_addName cX5_addName 3 none) ∈ oa_T := oa_mem (i := 821) (by decide +kernel) (by decide +kernel)
theorem tw_822 : (Cond.methodLink RX5 166 yX5_addNumber) ∈ oa_T := oa_mem (i := 822) (by decide +kernel) (by decide +kernel)
theorem tw_824 : (Cond.instanceMethod yX5_addNumber) ∈ oa_T := oa_mem (i := 824) (by decide +kernel) (by decide +kernel)
theorem tw_825 : (Cond.code yX5_addNumber cX5_addNumber 4 none) ∈ oa_T := oa_mem (i := 825) (by decide +kernel) (by decide +kernel)
theorem tw_834 : (Cond.methodLink RX5 169 yX5_isLabelLetter) ∈ oa_T := oa_mem (i := 834) (by decide +kernel) (by decide +kernel)
theorem tw_835 : (Cond.static yX5_isLabelLetter) ∈ oa_T := oa_mem (i := 835) (by decide +kernel) (by decide +kernel)
theorem tw_836 : (Cond.code yX5_isLabelLetter cX5_isLabelLetter 1 (some .boolean)) ∈ oa_T := oa_mem (i := 836) (by decide +kernel) (by decide +kernel)
theorem tw_837 : (Cond.methodLink RX5 178 yX5_readOperands) ∈ oa_T := oa_mem (i := 837) (by decide +kernel) (by decide +kernel)
theorem tw_839 : (Cond.instanceMethod yX5_readOperands) ∈ oa_T := oa_mem (i := 839) (by decide +kernel) (by decide +kernel)
theorem tw_840 : (Cond.code yX5_readOperands cX5_readOperands 3 (some .int)) ∈ oa_T := oa_mem (i := 840) (by decide +kernel) (by decide +kernel)
theorem tw_841 : (Cond.methodLink RX5 175 yX5_readOperand) ∈ oa_T := oa_mem (i := 841) (by decide +kernel) (by decide +kernel)
theorem tw_843 : (Cond.instanceMethod yX5_readOperand) ∈ oa_T := oa_mem (i := 843) (by decide +kernel) (by decide +kernel)
theorem tw_844 : (Cond.code yX5_readOperand cX5_readOperand 5 none) ∈ oa_T := oa_mem (i := 844) (by decide +kernel) (by decide +kernel)
theorem tw_845 : (Cond.methodLink RX5 172 yX5_isDigit) ∈ oa_T := oa_mem (i := 845) (by decide +kernel) (by decide +kernel)
theorem tw_846 : (Cond.static yX5_isDigit) ∈ oa_T := oa_mem (i := 846) (by decide +kernel) (by decide +kernel)
theorem tw_847 : (Cond.code yX5_isDigit cX5_isDigit 1 (some .boolean)) ∈ oa_T := oa_mem (i := 847) (by decide +kernel) (by decide +kernel)
theorem tw_856 : (Cond.methodLink RX5 191 yX5_missing) ∈ oa_T := oa_mem (i := 856) (by decide +kernel) (by decide +kernel)
theorem tw_858 : (Cond.instanceMethod yX5_missing) ∈ oa_T := oa_mem (i := 858) (by decide +kernel) (by decide +kernel)
theorem tw_859 : (Cond.code yX5_missing cX5_missing 3 (some .int)) ∈ oa_T := oa_mem (i := 859) (by decide +kernel) (by decide +kernel)
theorem tw_860 : (Cond.methodLink RX5 184 yX5_lineOf) ∈ oa_T := oa_mem (i := 860) (by decide +kernel) (by decide +kernel)
theorem tw_862 : (Cond.instanceMethod yX5_lineOf) ∈ oa_T := oa_mem (i := 862) (by decide +kernel) (by decide +kernel)
theorem tw_863 : (Cond.code yX5_lineOf cX5_lineOf 3 (some .int)) ∈ oa_T := oa_mem (i := 863) (by decide +kernel) (by decide +kernel)
theorem tw_864 : (Cond.methodLink RX5 194 yX5_laid) ∈ oa_T := oa_mem (i := 864) (by decide +kernel) (by decide +kernel)
theorem tw_866 : (Cond.instanceMethod yX5_laid) ∈ oa_T := oa_mem (i := 866) (by decide +kernel) (by decide +kernel)
theorem tw_867 : (Cond.code yX5_laid cX5_laid 9 (some .boolean)) ∈ oa_T := oa_mem (i := 867) (by decide +kernel) (by decide +kernel)
theorem tw_868 : (Cond.methodLink RX5 187 yX5_fieldOf) ∈ oa_T := oa_mem (i := 868) (by decide +kernel) (by decide +kernel)
theorem tw_870 : (Cond.instanceMethod yX5_fieldOf) ∈ oa_T := oa_mem (i := 870) (by decide +kernel) (by decide +kernel)
theorem tw_871 : (Cond.code yX5_fieldOf cX5_fieldOf 9 (some .int)) ∈ oa_T := oa_mem (i := 871) (by decide +kernel) (by decide +kernel)
end
section
def FX3_add (n : Nat) (n0 : Nat) (x1 : Int32) (M : oa_M) : Option (Int32 × oa_M) := (if (M 1 n0 1) < (40 : Int32) then (if oa_in (M 1 n0 1) 40 = true then (some ((1 : Int32), (oa_up (oa_up M 2 n0 (M 1 n0 1).toNatClampNeg (vp_nar .char x1)) 1 n0 1 ((M 1 n0 1) + (1 : Int32))))) else none) else (some ((0 : Int32), M)))
set_option maxHeartbeats 4000000 in
set_option maxRecDepth 100000 in
theorem cX3_add_k (l : Launch) (D : va_G) (ca : Nat → ClassId) (ad : Nat → Nat → Nat) (b0 : Nat) (hw : oa_W ad b0) (n : Nat) (n0 : Nat) (hn0 : n0 < oa_n 1) (x1 : Int32) (M : oa_M) (o : Int32 × oa_M) (hf : FX3_add n n0 x1 M = some o) : oa_Mi l yX3_add (oa_w yX3_add cX3_add 2 (some .boolean)) ({ frames := 0, cells := 0, slots := 0, locals := 0 } : Room) D ca ad b0 [.ref (ad 1 n0), .int x1] M o.1 o.2 := by
  refine oa_ofW (cc := cX3_add) (maxL := 2) (ret := some .boolean) (by decide) rfl (Nat.le_of_ble_eq_true rfl) ?_
  intro p e s m below meth c hx hb hml hr hlocks hown hts0 hP ls hl
  obtain ⟨hH, hE⟩ := hP
  have hts : ∀ w ∈ oa_T, w.before _ s = true := fun w h => hts0 w (List.mem_cons_of_mem _ h)
  have hS : va_S (fun q => b0 ≤ q) s.heap s.heap [] := va_S.rf
  have C : oa_Cx p s m _ meth c cX3_add 2 (some .boolean) RX3 D ca b0 ad := ⟨hx, hb, hml, hr, hlocks, hown, hts, hE, hw⟩
  have hl : lv_has ls 2 [(0, .ref (ad 1 n0)), (1, .int x1)] := hl
  unfold FX3_add at hf
  refine lv_aload_n hx hb dX3_add_0 rfl (lv_at hl 0 rfl) ?_
  refine oa_get (ci := 3) (C := RX3) (T := TX3) (N := 3) (v := .int (M 1 n0 1)) hx hb hts inX3 hown hE hH 1 n0 hn0 rfl rfl 1 (by decide) (hts _ tw_73) rfl dX3_add_1 ?_
  refine lv_aload_n hx hb dX3_add_4 rfl (lv_at hl 0 rfl) ?_
  refine oa_get (ci := 3) (C := RX3) (T := TX3) (N := 3) (v := .ref (ad 2 n0)) hx hb hts inX3 hown hE hH 1 n0 hn0 rfl rfl 0 (by decide) (hts _ tw_72) rfl dX3_add_5 ?_
  refine oa_len (v := (40 : Int32)) hx hb hE hH 2 n0 hn0 0 rfl rfl rfl dX3_add_8 ?_
  refine lv_icmp_lt (tgt := 14) hx hb dX3_add_9 (by decide) (fun hq1 => ?_) (fun hq1 => ?_)
  · rw [if_pos hq1] at hf
    refine lv_aload_n hx hb dX3_add_14 rfl (lv_at hl 0 rfl) ?_
    refine oa_get (ci := 3) (C := RX3) (T := TX3) (N := 3) (v := .ref (ad 2 n0)) hx hb hts inX3 hown hE hH 1 n0 hn0 rfl rfl 0 (by decide) (hts _ tw_72) rfl dX3_add_15 ?_
    refine lv_aload_n hx hb dX3_add_18 rfl (lv_at hl 0 rfl) ?_
    refine oa_get (ci := 3) (C := RX3) (T := TX3) (N := 3) (v := .int (M 1 n0 1)) hx hb hts inX3 hown hE hH 1 n0 hn0 rfl rfl 1 (by decide) (hts _ tw_73) rfl dX3_add_19 ?_
    refine lv_iload_n hx hb dX3_add_22 rfl (lv_at hl 1 rfl) ?_
    obtain ⟨hk2, hf⟩ := oa_ck hf
    refine oa_cst hx hb hE hw hH hS 2 n0 hn0 40 (fun _ => rfl) (oa_in_vp hk2) dX3_add_23 (fun H locs hH hS => ?_)
    refine lv_aload_n hx hb dX3_add_24 rfl (lv_at hl 0 rfl) ?_
    refine lv_dup hx hb dX3_add_25 rfl ?_
    refine oa_get (ci := 3) (C := RX3) (T := TX3) (N := 3) (v := .int (M 1 n0 1)) hx hb hts inX3 hown hE hH 1 n0 hn0 rfl rfl 1 (by decide) (hts _ tw_73) rfl dX3_add_26 ?_
    refine lv_iconst (v := (1 : Int32)) hx hb dX3_add_29 (by decide) ?_
    refine lv_iadd hx hb dX3_add_30 ?_
    refine oa_put (ci := 3) (C := RX3) (T := TX3) (N := 3) (v := .int ((M 1 n0 1) + (1 : Int32))) (x := ((M 1 n0 1) + (1 : Int32))) hx hb hts inX3 tyX3 tyX3_ok nmX3 hown hE hw hH hS 1 n0 hn0 rfl rfl 1 (by decide) (hts _ tw_73) rfl rfl rfl (Nat.le_of_ble_eq_true rfl) rfl dX3_add_31 (fun H locs hH hS => ?_)
    refine lv_iconst (v := (1 : Int32)) hx hb dX3_add_34 (by decide) ?_
    cases hf
    exact oa_reti hx hb hr hlocks rfl hS hH dX3_add_35
  · rw [if_neg hq1] at hf
    refine lv_iconst (v := (0 : Int32)) hx hb dX3_add_12 (by decide) ?_
    cases hf
    exact oa_reti hx hb hr hlocks rfl hS hH dX3_add_13
theorem cX3_add_ok (l : Launch) (D : va_G) (ca : Nat → ClassId) (ad : Nat → Nat → Nat) (b0 : Nat) (hw : oa_W ad b0) (n : Nat) (n0 : Nat) (hn0 : n0 < oa_n 1) (x1 : Int32) (M : oa_M) (r : Int32) (M' : oa_M) (hf : FX3_add n n0 x1 M = some (r, M')) : oa_Mi l yX3_add (oa_w yX3_add cX3_add 2 (some .boolean)) ({ frames := 0, cells := 0, slots := 0, locals := 0 } : Room) D ca ad b0 [.ref (ad 1 n0), .int x1] M r M' := cX3_add_k l D ca ad b0 hw n n0 hn0 x1 M (r, M') hf
def BX3_nextIsWithin_42 (n : Nat) (n0 : Nat) (x1 : Int32) (x2 : Int32) (z0 : Int32) (M : oa_M) : Option (Int32 × oa_M) := (some (oa_nz z0, M))
def BX3_nextIsWithin_41 (n : Nat) (n0 : Nat) (x1 : Int32) (x2 : Int32) (M : oa_M) : Option (Int32 × oa_M) := (BX3_nextIsWithin_42 n n0 x1 x2 (0 : Int32) M)
def FX3_nextIsWithin (n : Nat) (n0 : Nat) (x1 : Int32) (x2 : Int32) (M : oa_M) : Option (Int32 × oa_M) := (if (M 1 n0 1) ≤ (M 1 n0 2) then (BX3_nextIsWithin_41 n n0 x1 x2 M) else (if oa_in (M 1 n0 2) 40 = true then (if (M 2 n0 (M 1 n0 2).toNatClampNeg) < x1 then (BX3_nextIsWithin_41 n n0 x1 x2 M) else (if oa_in (M 1 n0 2) 40 = true then (if x2 < (M 2 n0 (M 1 n0 2).toNatClampNeg) then (BX3_nextIsWithin_41 n n0 x1 x2 M) else (BX3_nextIsWithin_42 n n0 x1 x2 (1 : Int32) M)) else none)) else none))
set_option maxHeartbeats 4000000 in
set_option maxRecDepth 100000 in
theorem bX3_nextIsWithin_42 {p : Program} {l : Launch} {e : Env} {s : State} {m : MethodId} {args : Array Value} {below : List Frame} {meth : Method} {c : Code} {D : va_G} {ca : Nat → ClassId} {ad : Nat → Nat → Nat} {b0 : Nat} {o : Int32 × oa_M} (C : oa_Cx p s m args meth c cX3_nextIsWithin 3 (some .boolean) RX3 D ca b0 ad) : ∀ (n : Nat), ∀ (n0 : Nat) (hn0 : n0 < oa_n 1) (x1 : Int32) (x2 : Int32) (z0 : Int32) (M : oa_M), BX3_nextIsWithin_42 n n0 x1 x2 z0 M = some o → ∀ (H : Heap) (locs : List Loc), oa_H D ca ad M H → va_S (fun q => b0 ≤ q) s.heap H locs → ∀ (ls : Array Slot), lv_has ls 3 [(0, .ref (ad 1 n0)), (1, .int x1), (2, .int x2)] → W p l e ({ frames := 0, cells := 0, slots := 0, locals := 0 } : Room) s m args below meth c H locs 0 0 (MQ below (va_Qi (fun (r' : Int32) (u : oa_M) => r' = o.1 ∧ u = o.2) (fun u t => oa_H D ca ad u t.heap) (fun q => b0 ≤ q)) args s 0 0 (fun q => b0 ≤ q)) (F0 m 42 ls [.int z0]) := by
  obtain ⟨hx, hb, hml, hr, hlocks, hown, hts, hE, hw⟩ := id C
  intro n n0 hn0 x1 x2 z0 M hf H locs hH hS ls hl
  unfold BX3_nextIsWithin_42 at hf
  cases hf
  exact oa_reti hx hb hr hlocks rfl hS hH dX3_nextIsWithin_42
set_option maxHeartbeats 4000000 in
set_option maxRecDepth 100000 in
theorem bX3_nextIsWithin_41 {p : Program} {l : Launch} {e : Env} {s : State} {m : MethodId} {args : Array Value} {below : List Frame} {meth : Method} {c : Code} {D : va_G} {ca : Nat → ClassId} {ad : Nat → Nat → Nat} {b0 : Nat} {o : Int32 × oa_M} (C : oa_Cx p s m args meth c cX3_nextIsWithin 3 (some .boolean) RX3 D ca b0 ad) : ∀ (n : Nat), ∀ (n0 : Nat) (hn0 : n0 < oa_n 1) (x1 : Int32) (x2 : Int32) (M : oa_M), BX3_nextIsWithin_41 n n0 x1 x2 M = some o → ∀ (H : Heap) (locs : List Loc), oa_H D ca ad M H → va_S (fun q => b0 ≤ q) s.heap H locs → ∀ (ls : Array Slot), lv_has ls 3 [(0, .ref (ad 1 n0)), (1, .int x1), (2, .int x2)] → W p l e ({ frames := 0, cells := 0, slots := 0, locals := 0 } : Room) s m args below meth c H locs 0 0 (MQ below (va_Qi (fun (r' : Int32) (u : oa_M) => r' = o.1 ∧ u = o.2) (fun u t => oa_H D ca ad u t.heap) (fun q => b0 ≤ q)) args s 0 0 (fun q => b0 ≤ q)) (F0 m 41 ls []) := by
  obtain ⟨hx, hb, hml, hr, hlocks, hown, hts, hE, hw⟩ := id C
  intro n n0 hn0 x1 x2 M hf H locs hH hS ls hl
  unfold BX3_nextIsWithin_41 at hf
  refine lv_iconst (v := (0 : Int32)) hx hb dX3_nextIsWithin_41 (by decide) ?_
  exact bX3_nextIsWithin_42 C n n0 hn0 x1 x2 (0 : Int32) _ hf _ _ hH hS _ (lv_sub hl [0, 1, 2] rfl)
set_option maxHeartbeats 4000000 in
set_option maxRecDepth 100000 in
theorem cX3_nextIsWithin_k (l : Launch) (D : va_G) (ca : Nat → ClassId) (ad : Nat → Nat → Nat) (b0 : Nat) (hw : oa_W ad b0) (n : Nat) (n0 : Nat) (hn0 : n0 < oa_n 1) (x1 : Int32) (x2 : Int32) (M : oa_M) (o : Int32 × oa_M) (hf : FX3_nextIsWithin n n0 x1 x2 M = some o) : oa_Mi l yX3_nextIsWithin (oa_w yX3_nextIsWithin cX3_nextIsWithin 3 (some .boolean)) ({ frames := 0, cells := 0, slots := 0, locals := 0 } : Room) D ca ad b0 [.ref (ad 1 n0), .int x1, .int x2] M o.1 o.2 := by
  refine oa_ofW (cc := cX3_nextIsWithin) (maxL := 3) (ret := some .boolean) (by decide) rfl (Nat.le_of_ble_eq_true rfl) ?_
  intro p e s m below meth c hx hb hml hr hlocks hown hts0 hP ls hl
  obtain ⟨hH, hE⟩ := hP
  have hts : ∀ w ∈ oa_T, w.before _ s = true := fun w h => hts0 w (List.mem_cons_of_mem _ h)
  have hS : va_S (fun q => b0 ≤ q) s.heap s.heap [] := va_S.rf
  have C : oa_Cx p s m _ meth c cX3_nextIsWithin 3 (some .boolean) RX3 D ca b0 ad := ⟨hx, hb, hml, hr, hlocks, hown, hts, hE, hw⟩
  have hl : lv_has ls 3 [(0, .ref (ad 1 n0)), (1, .int x1), (2, .int x2)] := hl
  unfold FX3_nextIsWithin at hf
  refine lv_aload_n hx hb dX3_nextIsWithin_0 rfl (lv_at hl 0 rfl) ?_
  refine oa_get (ci := 3) (C := RX3) (T := TX3) (N := 3) (v := .int (M 1 n0 2)) hx hb hts inX3 hown hE hH 1 n0 hn0 rfl rfl 2 (by decide) (hts _ tw_75) rfl dX3_nextIsWithin_1 ?_
  refine lv_aload_n hx hb dX3_nextIsWithin_4 rfl (lv_at hl 0 rfl) ?_
  refine oa_get (ci := 3) (C := RX3) (T := TX3) (N := 3) (v := .int (M 1 n0 1)) hx hb hts inX3 hown hE hH 1 n0 hn0 rfl rfl 1 (by decide) (hts _ tw_73) rfl dX3_nextIsWithin_5 ?_
  refine lv_icmp_ge (tgt := 41) hx hb dX3_nextIsWithin_8 (by decide) (fun hq1 => ?_) (fun hq1 => ?_)
  · rw [if_pos hq1] at hf
    exact bX3_nextIsWithin_41 C n n0 hn0 x1 x2 _ hf _ _ hH hS _ (lv_sub hl [0, 1, 2] rfl)
  · rw [if_neg hq1] at hf
    refine lv_aload_n hx hb dX3_nextIsWithin_11 rfl (lv_at hl 0 rfl) ?_
    refine oa_get (ci := 3) (C := RX3) (T := TX3) (N := 3) (v := .ref (ad 2 n0)) hx hb hts inX3 hown hE hH 1 n0 hn0 rfl rfl 0 (by decide) (hts _ tw_72) rfl dX3_nextIsWithin_12 ?_
    refine lv_aload_n hx hb dX3_nextIsWithin_15 rfl (lv_at hl 0 rfl) ?_
    refine oa_get (ci := 3) (C := RX3) (T := TX3) (N := 3) (v := .int (M 1 n0 2)) hx hb hts inX3 hown hE hH 1 n0 hn0 rfl rfl 2 (by decide) (hts _ tw_75) rfl dX3_nextIsWithin_16 ?_
    obtain ⟨hk2, hf⟩ := oa_ck hf
    refine oa_cld hx hb hE hH 2 n0 hn0 40 rfl (oa_in_vp hk2) dX3_nextIsWithin_19 ?_
    refine lv_iload_n hx hb dX3_nextIsWithin_20 rfl (lv_at hl 1 rfl) ?_
    refine lv_icmp_lt (tgt := 41) hx hb dX3_nextIsWithin_21 (by decide) (fun hq3 => ?_) (fun hq3 => ?_)
    · rw [if_pos hq3] at hf
      exact bX3_nextIsWithin_41 C n n0 hn0 x1 x2 _ hf _ _ hH hS _ (lv_sub hl [0, 1, 2] rfl)
    · rw [if_neg hq3] at hf
      refine lv_aload_n hx hb dX3_nextIsWithin_24 rfl (lv_at hl 0 rfl) ?_
      refine oa_get (ci := 3) (C := RX3) (T := TX3) (N := 3) (v := .ref (ad 2 n0)) hx hb hts inX3 hown hE hH 1 n0 hn0 rfl rfl 0 (by decide) (hts _ tw_72) rfl dX3_nextIsWithin_25 ?_
      refine lv_aload_n hx hb dX3_nextIsWithin_28 rfl (lv_at hl 0 rfl) ?_
      refine oa_get (ci := 3) (C := RX3) (T := TX3) (N := 3) (v := .int (M 1 n0 2)) hx hb hts inX3 hown hE hH 1 n0 hn0 rfl rfl 2 (by decide) (hts _ tw_75) rfl dX3_nextIsWithin_29 ?_
      obtain ⟨hk4, hf⟩ := oa_ck hf
      refine oa_cld hx hb hE hH 2 n0 hn0 40 rfl (oa_in_vp hk4) dX3_nextIsWithin_32 ?_
      refine lv_iload_n hx hb dX3_nextIsWithin_33 rfl (lv_at hl 2 rfl) ?_
      refine lv_icmp_gt (tgt := 41) hx hb dX3_nextIsWithin_34 (by decide) (fun hq5 => ?_) (fun hq5 => ?_)
      · rw [if_pos hq5] at hf
        exact bX3_nextIsWithin_41 C n n0 hn0 x1 x2 _ hf _ _ hH hS _ (lv_sub hl [0, 1, 2] rfl)
      · rw [if_neg hq5] at hf
        refine lv_iconst (v := (1 : Int32)) hx hb dX3_nextIsWithin_37 (by decide) ?_
        refine lv_goto (tgt := 42) hx hb dX3_nextIsWithin_38 (by decide) ?_
        exact bX3_nextIsWithin_42 C n n0 hn0 x1 x2 (1 : Int32) _ hf _ _ hH hS _ (lv_sub hl [0, 1, 2] rfl)
theorem cX3_nextIsWithin_ok (l : Launch) (D : va_G) (ca : Nat → ClassId) (ad : Nat → Nat → Nat) (b0 : Nat) (hw : oa_W ad b0) (n : Nat) (n0 : Nat) (hn0 : n0 < oa_n 1) (x1 : Int32) (x2 : Int32) (M : oa_M) (r : Int32) (M' : oa_M) (hf : FX3_nextIsWithin n n0 x1 x2 M = some (r, M')) : oa_Mi l yX3_nextIsWithin (oa_w yX3_nextIsWithin cX3_nextIsWithin 3 (some .boolean)) ({ frames := 0, cells := 0, slots := 0, locals := 0 } : Room) D ca ad b0 [.ref (ad 1 n0), .int x1, .int x2] M r M' := cX3_nextIsWithin_k l D ca ad b0 hw n n0 hn0 x1 x2 M (r, M') hf
def BX3_at_22 (n : Nat) (n0 : Nat) (x1 : Int32) (z0 : Int32) (M : oa_M) : Option (Int32 × oa_M) := (some (oa_nc z0, M))
def BX3_at_21 (n : Nat) (n0 : Nat) (x1 : Int32) (M : oa_M) : Option (Int32 × oa_M) := (BX3_at_22 n n0 x1 (0 : Int32) M)
def FX3_at (n : Nat) (n0 : Nat) (x1 : Int32) (M : oa_M) : Option (Int32 × oa_M) := (if x1 < 0 then (BX3_at_21 n n0 x1 M) else (if (M 1 n0 1) ≤ x1 then (BX3_at_21 n n0 x1 M) else (if oa_in x1 40 = true then (BX3_at_22 n n0 x1 (M 2 n0 x1.toNatClampNeg) M) else none)))
set_option maxHeartbeats 4000000 in
set_option maxRecDepth 100000 in
theorem bX3_at_22 {p : Program} {l : Launch} {e : Env} {s : State} {m : MethodId} {args : Array Value} {below : List Frame} {meth : Method} {c : Code} {D : va_G} {ca : Nat → ClassId} {ad : Nat → Nat → Nat} {b0 : Nat} {o : Int32 × oa_M} (C : oa_Cx p s m args meth c cX3_at 2 (some .char) RX3 D ca b0 ad) : ∀ (n : Nat), ∀ (n0 : Nat) (hn0 : n0 < oa_n 1) (x1 : Int32) (z0 : Int32) (M : oa_M), BX3_at_22 n n0 x1 z0 M = some o → ∀ (H : Heap) (locs : List Loc), oa_H D ca ad M H → va_S (fun q => b0 ≤ q) s.heap H locs → ∀ (ls : Array Slot), lv_has ls 2 [(0, .ref (ad 1 n0)), (1, .int x1)] → W p l e ({ frames := 0, cells := 0, slots := 0, locals := 0 } : Room) s m args below meth c H locs 0 0 (MQ below (va_Qi (fun (r' : Int32) (u : oa_M) => r' = o.1 ∧ u = o.2) (fun u t => oa_H D ca ad u t.heap) (fun q => b0 ≤ q)) args s 0 0 (fun q => b0 ≤ q)) (F0 m 22 ls [.int z0]) := by
  obtain ⟨hx, hb, hml, hr, hlocks, hown, hts, hE, hw⟩ := id C
  intro n n0 hn0 x1 z0 M hf H locs hH hS ls hl
  unfold BX3_at_22 at hf
  cases hf
  exact oa_reti hx hb hr hlocks rfl hS hH dX3_at_22
set_option maxHeartbeats 4000000 in
set_option maxRecDepth 100000 in
theorem bX3_at_21 {p : Program} {l : Launch} {e : Env} {s : State} {m : MethodId} {args : Array Value} {below : List Frame} {meth : Method} {c : Code} {D : va_G} {ca : Nat → ClassId} {ad : Nat → Nat → Nat} {b0 : Nat} {o : Int32 × oa_M} (C : oa_Cx p s m args meth c cX3_at 2 (some .char) RX3 D ca b0 ad) : ∀ (n : Nat), ∀ (n0 : Nat) (hn0 : n0 < oa_n 1) (x1 : Int32) (M : oa_M), BX3_at_21 n n0 x1 M = some o → ∀ (H : Heap) (locs : List Loc), oa_H D ca ad M H → va_S (fun q => b0 ≤ q) s.heap H locs → ∀ (ls : Array Slot), lv_has ls 2 [(0, .ref (ad 1 n0)), (1, .int x1)] → W p l e ({ frames := 0, cells := 0, slots := 0, locals := 0 } : Room) s m args below meth c H locs 0 0 (MQ below (va_Qi (fun (r' : Int32) (u : oa_M) => r' = o.1 ∧ u = o.2) (fun u t => oa_H D ca ad u t.heap) (fun q => b0 ≤ q)) args s 0 0 (fun q => b0 ≤ q)) (F0 m 21 ls []) := by
  obtain ⟨hx, hb, hml, hr, hlocks, hown, hts, hE, hw⟩ := id C
  intro n n0 hn0 x1 M hf H locs hH hS ls hl
  unfold BX3_at_21 at hf
  refine lv_iconst (v := (0 : Int32)) hx hb dX3_at_21 (by decide) ?_
  exact bX3_at_22 C n n0 hn0 x1 (0 : Int32) _ hf _ _ hH hS _ (lv_sub hl [0, 1] rfl)
set_option maxHeartbeats 4000000 in
set_option maxRecDepth 100000 in
theorem cX3_at_k (l : Launch) (D : va_G) (ca : Nat → ClassId) (ad : Nat → Nat → Nat) (b0 : Nat) (hw : oa_W ad b0) (n : Nat) (n0 : Nat) (hn0 : n0 < oa_n 1) (x1 : Int32) (M : oa_M) (o : Int32 × oa_M) (hf : FX3_at n n0 x1 M = some o) : oa_Mi l yX3_at (oa_w yX3_at cX3_at 2 (some .char)) ({ frames := 0, cells := 0, slots := 0, locals := 0 } : Room) D ca ad b0 [.ref (ad 1 n0), .int x1] M o.1 o.2 := by
  refine oa_ofW (cc := cX3_at) (maxL := 2) (ret := some .char) (by decide) rfl (Nat.le_of_ble_eq_true rfl) ?_
  intro p e s m below meth c hx hb hml hr hlocks hown hts0 hP ls hl
  obtain ⟨hH, hE⟩ := hP
  have hts : ∀ w ∈ oa_T, w.before _ s = true := fun w h => hts0 w (List.mem_cons_of_mem _ h)
  have hS : va_S (fun q => b0 ≤ q) s.heap s.heap [] := va_S.rf
  have C : oa_Cx p s m _ meth c cX3_at 2 (some .char) RX3 D ca b0 ad := ⟨hx, hb, hml, hr, hlocks, hown, hts, hE, hw⟩
  have hl : lv_has ls 2 [(0, .ref (ad 1 n0)), (1, .int x1)] := hl
  unfold FX3_at at hf
  refine lv_iload_n hx hb dX3_at_0 rfl (lv_at hl 1 rfl) ?_
  refine lv_if_lt (tgt := 21) hx hb dX3_at_1 (by decide) (fun hq1 => ?_) (fun hq1 => ?_)
  · rw [if_pos hq1] at hf
    exact bX3_at_21 C n n0 hn0 x1 _ hf _ _ hH hS _ (lv_sub hl [0, 1] rfl)
  · rw [if_neg hq1] at hf
    refine lv_iload_n hx hb dX3_at_4 rfl (lv_at hl 1 rfl) ?_
    refine lv_aload_n hx hb dX3_at_5 rfl (lv_at hl 0 rfl) ?_
    refine oa_get (ci := 3) (C := RX3) (T := TX3) (N := 3) (v := .int (M 1 n0 1)) hx hb hts inX3 hown hE hH 1 n0 hn0 rfl rfl 1 (by decide) (hts _ tw_73) rfl dX3_at_6 ?_
    refine lv_icmp_ge (tgt := 21) hx hb dX3_at_9 (by decide) (fun hq2 => ?_) (fun hq2 => ?_)
    · rw [if_pos hq2] at hf
      exact bX3_at_21 C n n0 hn0 x1 _ hf _ _ hH hS _ (lv_sub hl [0, 1] rfl)
    · rw [if_neg hq2] at hf
      refine lv_aload_n hx hb dX3_at_12 rfl (lv_at hl 0 rfl) ?_
      refine oa_get (ci := 3) (C := RX3) (T := TX3) (N := 3) (v := .ref (ad 2 n0)) hx hb hts inX3 hown hE hH 1 n0 hn0 rfl rfl 0 (by decide) (hts _ tw_72) rfl dX3_at_13 ?_
      refine lv_iload_n hx hb dX3_at_16 rfl (lv_at hl 1 rfl) ?_
      obtain ⟨hk3, hf⟩ := oa_ck hf
      refine oa_cld hx hb hE hH 2 n0 hn0 40 rfl (oa_in_vp hk3) dX3_at_17 ?_
      refine lv_goto (tgt := 22) hx hb dX3_at_18 (by decide) ?_
      exact bX3_at_22 C n n0 hn0 x1 (M 2 n0 x1.toNatClampNeg) _ hf _ _ hH hS _ (lv_sub hl [0, 1] rfl)
theorem cX3_at_ok (l : Launch) (D : va_G) (ca : Nat → ClassId) (ad : Nat → Nat → Nat) (b0 : Nat) (hw : oa_W ad b0) (n : Nat) (n0 : Nat) (hn0 : n0 < oa_n 1) (x1 : Int32) (M : oa_M) (r : Int32) (M' : oa_M) (hf : FX3_at n n0 x1 M = some (r, M')) : oa_Mi l yX3_at (oa_w yX3_at cX3_at 2 (some .char)) ({ frames := 0, cells := 0, slots := 0, locals := 0 } : Room) D ca ad b0 [.ref (ad 1 n0), .int x1] M r M' := cX3_at_k l D ca ad b0 hw n n0 hn0 x1 M (r, M') hf
def FX3_takeAny (n : Nat) (n0 : Nat) (M : oa_M) : Option (Int32 × oa_M) := (oa_bd (FX3_at n n0 (M 1 n0 2) M) (fun r1 M2 => (some (oa_nc r1, (oa_up M2 1 n0 2 ((M2 1 n0 2) + (1 : Int32)))))))
set_option maxHeartbeats 4000000 in
set_option maxRecDepth 100000 in
theorem cX3_takeAny_k (l : Launch) (D : va_G) (ca : Nat → ClassId) (ad : Nat → Nat → Nat) (b0 : Nat) (hw : oa_W ad b0) (n : Nat) (n0 : Nat) (hn0 : n0 < oa_n 1) (M : oa_M) (o : Int32 × oa_M) (hf : FX3_takeAny n n0 M = some o) : oa_Mi l yX3_takeAny (oa_w yX3_takeAny cX3_takeAny 2 (some .char)) ({ frames := 1, cells := 0, slots := 0, locals := 21 } : Room) D ca ad b0 [.ref (ad 1 n0)] M o.1 o.2 := by
  refine oa_ofW (cc := cX3_takeAny) (maxL := 2) (ret := some .char) (by decide) rfl (Nat.le_of_ble_eq_true rfl) ?_
  intro p e s m below meth c hx hb hml hr hlocks hown hts0 hP ls hl
  obtain ⟨hH, hE⟩ := hP
  have hts : ∀ w ∈ oa_T, w.before _ s = true := fun w h => hts0 w (List.mem_cons_of_mem _ h)
  have hS : va_S (fun q => b0 ≤ q) s.heap s.heap [] := va_S.rf
  have C : oa_Cx p s m _ meth c cX3_takeAny 2 (some .char) RX3 D ca b0 ad := ⟨hx, hb, hml, hr, hlocks, hown, hts, hE, hw⟩
  have hl : lv_has ls 2 [(0, .ref (ad 1 n0))] := hl
  unfold FX3_takeAny at hf
  refine lv_aload_n hx hb dX3_takeAny_0 rfl (lv_at hl 0 rfl) ?_
  refine lv_aload_n hx hb dX3_takeAny_1 rfl (lv_at hl 0 rfl) ?_
  refine oa_get (ci := 3) (C := RX3) (T := TX3) (N := 3) (v := .int (M 1 n0 2)) hx hb hts inX3 hown hE hH 1 n0 hn0 rfl rfl 2 (by decide) (hts _ tw_75) rfl dX3_takeAny_2 ?_
  obtain ⟨r1, M2, hc3, hf⟩ := oa_bdE hf
  refine oa_cvi (As := [.int (M 1 n0 2)]) (rest := []) ⟨hx, hb, hml, hown, hts⟩ (cX3_at_ok l D ca ad b0 hw n n0 hn0 (M 1 n0 2) _ _ _ hc3) (cwV 1 hts (oa_gV tw_274 tw_234 tw_235 tw_45 tw_236) rfl rfl rfl (by decide +kernel) ⟨Nat.le_of_ble_eq_true rfl, Nat.le_of_ble_eq_true rfl⟩) hE hH hS (oa_recv (k := 1) (ci := 3) hE hH hn0 rfl rfl) rfl hl.1 rfl (Nat.le_of_ble_eq_true rfl) dX3_takeAny_5 ⟨by decide, by decide⟩ (fun H locs hH hS => ?_)
  refine lv_istore_n (lv' := [(1, .int r1), (0, .ref (ad 1 n0))]) hx hb dX3_takeAny_8 rfl hl (by decide) rfl (fun ls hl => ?_)
  refine lv_aload_n hx hb dX3_takeAny_9 rfl (lv_at hl 1 rfl) ?_
  refine lv_dup hx hb dX3_takeAny_10 rfl ?_
  refine oa_get (ci := 3) (C := RX3) (T := TX3) (N := 3) (v := .int (M2 1 n0 2)) hx hb hts inX3 hown hE hH 1 n0 hn0 rfl rfl 2 (by decide) (hts _ tw_75) rfl dX3_takeAny_11 ?_
  refine lv_iconst (v := (1 : Int32)) hx hb dX3_takeAny_14 (by decide) ?_
  refine lv_iadd hx hb dX3_takeAny_15 ?_
  refine oa_put (ci := 3) (C := RX3) (T := TX3) (N := 3) (v := .int ((M2 1 n0 2) + (1 : Int32))) (x := ((M2 1 n0 2) + (1 : Int32))) hx hb hts inX3 tyX3 tyX3_ok nmX3 hown hE hw hH hS 1 n0 hn0 rfl rfl 2 (by decide) (hts _ tw_75) rfl rfl rfl (Nat.le_of_ble_eq_true rfl) rfl dX3_takeAny_16 (fun H locs hH hS => ?_)
  refine lv_iload_n hx hb dX3_takeAny_19 rfl (lv_at hl 0 rfl) ?_
  cases hf
  exact oa_reti hx hb hr hlocks rfl hS hH dX3_takeAny_20
theorem cX3_takeAny_ok (l : Launch) (D : va_G) (ca : Nat → ClassId) (ad : Nat → Nat → Nat) (b0 : Nat) (hw : oa_W ad b0) (n : Nat) (n0 : Nat) (hn0 : n0 < oa_n 1) (M : oa_M) (r : Int32) (M' : oa_M) (hf : FX3_takeAny n n0 M = some (r, M')) : oa_Mi l yX3_takeAny (oa_w yX3_takeAny cX3_takeAny 2 (some .char)) ({ frames := 1, cells := 0, slots := 0, locals := 21 } : Room) D ca ad b0 [.ref (ad 1 n0)] M r M' := cX3_takeAny_k l D ca ad b0 hw n n0 hn0 M (r, M') hf
def BX3_takeName_36 (n : Nat) (n0 : Nat) (x1 : Int32) (x2 : Int32) (M : oa_M) : Option (Int32 × oa_M) := (some (x1, M))
def BX3_takeName_4 : Nat → Nat → Int32 → Int32 → oa_M → Option (Int32 × oa_M)
  | 0, _, _, _, _ => none
  | n + 1, n0, x1, x2, M => (if (4 : Int32) ≤ x2 then (BX3_takeName_36 n n0 x1 x2 M) else (oa_bd (FX3_nextIsWithin n n0 (97 : Int32) (122 : Int32) M) (fun r2 M3 => (if r2 = 0 then (BX3_takeName_36 n n0 x1 x2 M3) else (oa_bd (FX3_takeAny n n0 M3) (fun r6 M7 => (BX3_takeName_4 n n0 ((x1 <<< ((8 : Int32) &&& 31)) ||| r6) (x2 + (1 : Int32)) M7)))))))
def FX3_takeName (n : Nat) (n0 : Nat) (M : oa_M) : Option (Int32 × oa_M) := (BX3_takeName_4 n n0 (0 : Int32) (0 : Int32) M)
set_option maxHeartbeats 4000000 in
set_option maxRecDepth 100000 in
theorem bX3_takeName_36 {p : Program} {l : Launch} {e : Env} {s : State} {m : MethodId} {args : Array Value} {below : List Frame} {meth : Method} {c : Code} {D : va_G} {ca : Nat → ClassId} {ad : Nat → Nat → Nat} {b0 : Nat} {o : Int32 × oa_M} (C : oa_Cx p s m args meth c cX3_takeName 3 (some .int) RX3 D ca b0 ad) : ∀ (n : Nat), ∀ (n0 : Nat) (hn0 : n0 < oa_n 1) (x1 : Int32) (x2 : Int32) (M : oa_M), BX3_takeName_36 n n0 x1 x2 M = some o → ∀ (H : Heap) (locs : List Loc), oa_H D ca ad M H → va_S (fun q => b0 ≤ q) s.heap H locs → ∀ (ls : Array Slot), lv_has ls 3 [(0, .ref (ad 1 n0)), (1, .int x1), (2, .int x2)] → W p l e ({ frames := 2, cells := 0, slots := 0, locals := 42 } : Room) s m args below meth c H locs 0 0 (MQ below (va_Qi (fun (r' : Int32) (u : oa_M) => r' = o.1 ∧ u = o.2) (fun u t => oa_H D ca ad u t.heap) (fun q => b0 ≤ q)) args s 0 0 (fun q => b0 ≤ q)) (F0 m 36 ls []) := by
  obtain ⟨hx, hb, hml, hr, hlocks, hown, hts, hE, hw⟩ := id C
  intro n n0 hn0 x1 x2 M hf H locs hH hS ls hl
  unfold BX3_takeName_36 at hf
  refine lv_iload_n hx hb dX3_takeName_36 rfl (lv_at hl 1 rfl) ?_
  cases hf
  exact oa_reti hx hb hr hlocks rfl hS hH dX3_takeName_37
set_option maxHeartbeats 4000000 in
set_option maxRecDepth 100000 in
theorem bX3_takeName_4 {p : Program} {l : Launch} {e : Env} {s : State} {m : MethodId} {args : Array Value} {below : List Frame} {meth : Method} {c : Code} {D : va_G} {ca : Nat → ClassId} {ad : Nat → Nat → Nat} {b0 : Nat} {o : Int32 × oa_M} (C : oa_Cx p s m args meth c cX3_takeName 3 (some .int) RX3 D ca b0 ad) : ∀ (n : Nat), ∀ (n0 : Nat) (hn0 : n0 < oa_n 1) (x1 : Int32) (x2 : Int32) (M : oa_M), BX3_takeName_4 n n0 x1 x2 M = some o → ∀ (H : Heap) (locs : List Loc), oa_H D ca ad M H → va_S (fun q => b0 ≤ q) s.heap H locs → ∀ (ls : Array Slot), lv_has ls 3 [(0, .ref (ad 1 n0)), (1, .int x1), (2, .int x2)] → W p l e ({ frames := 2, cells := 0, slots := 0, locals := 42 } : Room) s m args below meth c H locs 0 0 (MQ below (va_Qi (fun (r' : Int32) (u : oa_M) => r' = o.1 ∧ u = o.2) (fun u t => oa_H D ca ad u t.heap) (fun q => b0 ≤ q)) args s 0 0 (fun q => b0 ≤ q)) (F0 m 4 ls []) := by
  obtain ⟨hx, hb, hml, hr, hlocks, hown, hts, hE, hw⟩ := id C
  intro n
  induction n with
  | zero => intro n0 hn0 x1 x2 M hf; cases hf
  | succ n ih =>
    intro n0 hn0 x1 x2 M hf H locs hH hS ls hl
    have hrec4 := ih
    unfold BX3_takeName_4 at hf
    refine lv_iload_n hx hb dX3_takeName_4 rfl (lv_at hl 2 rfl) ?_
    refine lv_iconst (v := (4 : Int32)) hx hb dX3_takeName_5 (by decide) ?_
    refine lv_icmp_ge (tgt := 36) hx hb dX3_takeName_6 (by decide) (fun hq1 => ?_) (fun hq1 => ?_)
    · rw [if_pos hq1] at hf
      exact bX3_takeName_36 C n n0 hn0 x1 x2 _ hf _ _ hH hS _ (lv_sub hl [0, 1, 2] rfl)
    · rw [if_neg hq1] at hf
      refine lv_aload_n hx hb dX3_takeName_9 rfl (lv_at hl 0 rfl) ?_
      refine lv_bipush (v := (97 : Int32)) hx hb dX3_takeName_10 (by decide) ?_
      refine lv_bipush (v := (122 : Int32)) hx hb dX3_takeName_12 (by decide) ?_
      obtain ⟨r2, M3, hc4, hf⟩ := oa_bdE hf
      refine oa_cvi (As := [.int (97 : Int32), .int (122 : Int32)]) (rest := []) ⟨hx, hb, hml, hown, hts⟩ (cX3_nextIsWithin_ok l D ca ad b0 hw n n0 hn0 (97 : Int32) (122 : Int32) _ _ _ hc4) (cwV 2 hts (oa_gV tw_266 tw_267 tw_268 tw_45 tw_269) rfl rfl rfl (by decide +kernel) ⟨Nat.le_of_ble_eq_true rfl, Nat.le_of_ble_eq_true rfl⟩) hE hH hS (oa_recv (k := 1) (ci := 3) hE hH hn0 rfl rfl) rfl hl.1 rfl (Nat.le_of_ble_eq_true rfl) dX3_takeName_14 ⟨by decide, by decide⟩ (fun H locs hH hS => ?_)
      refine lv_if_eq (tgt := 36) hx hb dX3_takeName_17 (by decide) (fun hq5 => ?_) (fun hq5 => ?_)
      · rw [if_pos hq5] at hf
        exact bX3_takeName_36 C n n0 hn0 x1 x2 _ hf _ _ hH hS _ (lv_sub hl [0, 1, 2] rfl)
      · rw [if_neg hq5] at hf
        refine lv_iload_n hx hb dX3_takeName_20 rfl (lv_at hl 1 rfl) ?_
        refine lv_bipush (v := (8 : Int32)) hx hb dX3_takeName_21 (by decide) ?_
        refine lv_ishl hx hb dX3_takeName_23 ?_
        refine lv_aload_n hx hb dX3_takeName_24 rfl (lv_at hl 0 rfl) ?_
        obtain ⟨r6, M7, hc8, hf⟩ := oa_bdE hf
        refine oa_cvi (As := []) (rest := [.int (x1 <<< ((8 : Int32) &&& 31))]) ⟨hx, hb, hml, hown, hts⟩ (cX3_takeAny_ok l D ca ad b0 hw n n0 hn0 _ _ _ hc8) (cwV 0 hts (oa_gV tw_270 tw_271 tw_272 tw_45 tw_273) rfl rfl rfl (by decide +kernel) ⟨Nat.le_of_ble_eq_true rfl, Nat.le_of_ble_eq_true rfl⟩) hE hH hS (oa_recv (k := 1) (ci := 3) hE hH hn0 rfl rfl) rfl hl.1 rfl (Nat.le_of_ble_eq_true rfl) dX3_takeName_25 ⟨by decide, by decide⟩ (fun H locs hH hS => ?_)
        refine lv_ior hx hb dX3_takeName_28 ?_
        refine lv_istore_n (lv' := [(1, .int ((x1 <<< ((8 : Int32) &&& 31)) ||| r6)), (0, .ref (ad 1 n0)), (2, .int x2)]) hx hb dX3_takeName_29 rfl hl (by decide) rfl (fun ls hl => ?_)
        refine lv_iinc (v := (x2 + (1 : Int32))) (lv' := [(2, .int (x2 + (1 : Int32))), (1, .int ((x1 <<< ((8 : Int32) &&& 31)) ||| r6)), (0, .ref (ad 1 n0))]) hx hb dX3_takeName_30 hl (k := 2) rfl rfl (by decide) rfl (fun ls hl => ?_)
        refine lv_goto (tgt := 4) hx hb dX3_takeName_33 (by decide) ?_
        exact hrec4 n0 hn0 ((x1 <<< ((8 : Int32) &&& 31)) ||| r6) (x2 + (1 : Int32)) _ hf _ _ hH hS _ (lv_sub hl [2, 1, 0] rfl)
set_option maxHeartbeats 4000000 in
set_option maxRecDepth 100000 in
theorem cX3_takeName_k (l : Launch) (D : va_G) (ca : Nat → ClassId) (ad : Nat → Nat → Nat) (b0 : Nat) (hw : oa_W ad b0) (n : Nat) (n0 : Nat) (hn0 : n0 < oa_n 1) (M : oa_M) (o : Int32 × oa_M) (hf : FX3_takeName n n0 M = some o) : oa_Mi l yX3_takeName (oa_w yX3_takeName cX3_takeName 3 (some .int)) ({ frames := 2, cells := 0, slots := 0, locals := 42 } : Room) D ca ad b0 [.ref (ad 1 n0)] M o.1 o.2 := by
  refine oa_ofW (cc := cX3_takeName) (maxL := 3) (ret := some .int) (by decide) rfl (Nat.le_of_ble_eq_true rfl) ?_
  intro p e s m below meth c hx hb hml hr hlocks hown hts0 hP ls hl
  obtain ⟨hH, hE⟩ := hP
  have hts : ∀ w ∈ oa_T, w.before _ s = true := fun w h => hts0 w (List.mem_cons_of_mem _ h)
  have hS : va_S (fun q => b0 ≤ q) s.heap s.heap [] := va_S.rf
  have C : oa_Cx p s m _ meth c cX3_takeName 3 (some .int) RX3 D ca b0 ad := ⟨hx, hb, hml, hr, hlocks, hown, hts, hE, hw⟩
  have hl : lv_has ls 3 [(0, .ref (ad 1 n0))] := hl
  unfold FX3_takeName at hf
  refine lv_iconst (v := (0 : Int32)) hx hb dX3_takeName_0 (by decide) ?_
  refine lv_istore_n (lv' := [(1, .int (0 : Int32)), (0, .ref (ad 1 n0))]) hx hb dX3_takeName_1 rfl hl (by decide) rfl (fun ls hl => ?_)
  refine lv_iconst (v := (0 : Int32)) hx hb dX3_takeName_2 (by decide) ?_
  refine lv_istore_n (lv' := [(2, .int (0 : Int32)), (1, .int (0 : Int32)), (0, .ref (ad 1 n0))]) hx hb dX3_takeName_3 rfl hl (by decide) rfl (fun ls hl => ?_)
  exact bX3_takeName_4 C n n0 hn0 (0 : Int32) (0 : Int32) _ hf _ _ hH hS _ (lv_sub hl [2, 1, 0] rfl)
theorem cX3_takeName_ok (l : Launch) (D : va_G) (ca : Nat → ClassId) (ad : Nat → Nat → Nat) (b0 : Nat) (hw : oa_W ad b0) (n : Nat) (n0 : Nat) (hn0 : n0 < oa_n 1) (M : oa_M) (r : Int32) (M' : oa_M) (hf : FX3_takeName n n0 M = some (r, M')) : oa_Mi l yX3_takeName (oa_w yX3_takeName cX3_takeName 3 (some .int)) ({ frames := 2, cells := 0, slots := 0, locals := 42 } : Room) D ca ad b0 [.ref (ad 1 n0)] M r M' := cX3_takeName_k l D ca ad b0 hw n n0 hn0 M (r, M') hf
def FX3_take (n : Nat) (n0 : Nat) (x1 : Int32) (M : oa_M) : Option (Int32 × oa_M) := (oa_bd (FX3_nextIsWithin n n0 x1 x1 M) (fun r1 M2 => (if r1 = 0 then (some ((0 : Int32), M2)) else (some ((1 : Int32), (oa_up M2 1 n0 2 ((M2 1 n0 2) + (1 : Int32))))))))
set_option maxHeartbeats 4000000 in
set_option maxRecDepth 100000 in
theorem cX3_take_k (l : Launch) (D : va_G) (ca : Nat → ClassId) (ad : Nat → Nat → Nat) (b0 : Nat) (hw : oa_W ad b0) (n : Nat) (n0 : Nat) (hn0 : n0 < oa_n 1) (x1 : Int32) (M : oa_M) (o : Int32 × oa_M) (hf : FX3_take n n0 x1 M = some o) : oa_Mi l yX3_take (oa_w yX3_take cX3_take 2 (some .boolean)) ({ frames := 1, cells := 0, slots := 0, locals := 22 } : Room) D ca ad b0 [.ref (ad 1 n0), .int x1] M o.1 o.2 := by
  refine oa_ofW (cc := cX3_take) (maxL := 2) (ret := some .boolean) (by decide) rfl (Nat.le_of_ble_eq_true rfl) ?_
  intro p e s m below meth c hx hb hml hr hlocks hown hts0 hP ls hl
  obtain ⟨hH, hE⟩ := hP
  have hts : ∀ w ∈ oa_T, w.before _ s = true := fun w h => hts0 w (List.mem_cons_of_mem _ h)
  have hS : va_S (fun q => b0 ≤ q) s.heap s.heap [] := va_S.rf
  have C : oa_Cx p s m _ meth c cX3_take 2 (some .boolean) RX3 D ca b0 ad := ⟨hx, hb, hml, hr, hlocks, hown, hts, hE, hw⟩
  have hl : lv_has ls 2 [(0, .ref (ad 1 n0)), (1, .int x1)] := hl
  unfold FX3_take at hf
  refine lv_aload_n hx hb dX3_take_0 rfl (lv_at hl 0 rfl) ?_
  refine lv_iload_n hx hb dX3_take_1 rfl (lv_at hl 1 rfl) ?_
  refine lv_iload_n hx hb dX3_take_2 rfl (lv_at hl 1 rfl) ?_
  obtain ⟨r1, M2, hc3, hf⟩ := oa_bdE hf
  refine oa_cvi (As := [.int x1, .int x1]) (rest := []) ⟨hx, hb, hml, hown, hts⟩ (cX3_nextIsWithin_ok l D ca ad b0 hw n n0 hn0 x1 x1 _ _ _ hc3) (cwV 2 hts (oa_gV tw_266 tw_267 tw_268 tw_45 tw_269) rfl rfl rfl (by decide +kernel) ⟨Nat.le_of_ble_eq_true rfl, Nat.le_of_ble_eq_true rfl⟩) hE hH hS (oa_recv (k := 1) (ci := 3) hE hH hn0 rfl rfl) rfl hl.1 rfl (Nat.le_of_ble_eq_true rfl) dX3_take_3 ⟨by decide, by decide⟩ (fun H locs hH hS => ?_)
  refine lv_if_ne (tgt := 11) hx hb dX3_take_6 (by decide) (fun hq4 => ?_) (fun hq4 => ?_)
  · rw [if_neg hq4] at hf
    refine lv_aload_n hx hb dX3_take_11 rfl (lv_at hl 0 rfl) ?_
    refine lv_dup hx hb dX3_take_12 rfl ?_
    refine oa_get (ci := 3) (C := RX3) (T := TX3) (N := 3) (v := .int (M2 1 n0 2)) hx hb hts inX3 hown hE hH 1 n0 hn0 rfl rfl 2 (by decide) (hts _ tw_75) rfl dX3_take_13 ?_
    refine lv_iconst (v := (1 : Int32)) hx hb dX3_take_16 (by decide) ?_
    refine lv_iadd hx hb dX3_take_17 ?_
    refine oa_put (ci := 3) (C := RX3) (T := TX3) (N := 3) (v := .int ((M2 1 n0 2) + (1 : Int32))) (x := ((M2 1 n0 2) + (1 : Int32))) hx hb hts inX3 tyX3 tyX3_ok nmX3 hown hE hw hH hS 1 n0 hn0 rfl rfl 2 (by decide) (hts _ tw_75) rfl rfl rfl (Nat.le_of_ble_eq_true rfl) rfl dX3_take_18 (fun H locs hH hS => ?_)
    refine lv_iconst (v := (1 : Int32)) hx hb dX3_take_21 (by decide) ?_
    cases hf
    exact oa_reti hx hb hr hlocks rfl hS hH dX3_take_22
  · rw [if_pos hq4] at hf
    refine lv_iconst (v := (0 : Int32)) hx hb dX3_take_9 (by decide) ?_
    cases hf
    exact oa_reti hx hb hr hlocks rfl hS hH dX3_take_10
theorem cX3_take_ok (l : Launch) (D : va_G) (ca : Nat → ClassId) (ad : Nat → Nat → Nat) (b0 : Nat) (hw : oa_W ad b0) (n : Nat) (n0 : Nat) (hn0 : n0 < oa_n 1) (x1 : Int32) (M : oa_M) (r : Int32) (M' : oa_M) (hf : FX3_take n n0 x1 M = some (r, M')) : oa_Mi l yX3_take (oa_w yX3_take cX3_take 2 (some .boolean)) ({ frames := 1, cells := 0, slots := 0, locals := 22 } : Room) D ca ad b0 [.ref (ad 1 n0), .int x1] M r M' := cX3_take_k l D ca ad b0 hw n n0 hn0 x1 M (r, M') hf
def FX3_left (n : Nat) (n0 : Nat) (M : oa_M) : Option (Int32 × oa_M) := (some (((M 1 n0 1) - (M 1 n0 2)), M))
set_option maxHeartbeats 4000000 in
set_option maxRecDepth 100000 in
theorem cX3_left_k (l : Launch) (D : va_G) (ca : Nat → ClassId) (ad : Nat → Nat → Nat) (b0 : Nat) (hw : oa_W ad b0) (n : Nat) (n0 : Nat) (hn0 : n0 < oa_n 1) (M : oa_M) (o : Int32 × oa_M) (hf : FX3_left n n0 M = some o) : oa_Mi l yX3_left (oa_w yX3_left cX3_left 1 (some .int)) ({ frames := 0, cells := 0, slots := 0, locals := 0 } : Room) D ca ad b0 [.ref (ad 1 n0)] M o.1 o.2 := by
  refine oa_ofW (cc := cX3_left) (maxL := 1) (ret := some .int) (by decide) rfl (Nat.le_of_ble_eq_true rfl) ?_
  intro p e s m below meth c hx hb hml hr hlocks hown hts0 hP ls hl
  obtain ⟨hH, hE⟩ := hP
  have hts : ∀ w ∈ oa_T, w.before _ s = true := fun w h => hts0 w (List.mem_cons_of_mem _ h)
  have hS : va_S (fun q => b0 ≤ q) s.heap s.heap [] := va_S.rf
  have C : oa_Cx p s m _ meth c cX3_left 1 (some .int) RX3 D ca b0 ad := ⟨hx, hb, hml, hr, hlocks, hown, hts, hE, hw⟩
  have hl : lv_has ls 1 [(0, .ref (ad 1 n0))] := hl
  unfold FX3_left at hf
  refine lv_aload_n hx hb dX3_left_0 rfl (lv_at hl 0 rfl) ?_
  refine oa_get (ci := 3) (C := RX3) (T := TX3) (N := 3) (v := .int (M 1 n0 1)) hx hb hts inX3 hown hE hH 1 n0 hn0 rfl rfl 1 (by decide) (hts _ tw_73) rfl dX3_left_1 ?_
  refine lv_aload_n hx hb dX3_left_4 rfl (lv_at hl 0 rfl) ?_
  refine oa_get (ci := 3) (C := RX3) (T := TX3) (N := 3) (v := .int (M 1 n0 2)) hx hb hts inX3 hown hE hH 1 n0 hn0 rfl rfl 2 (by decide) (hts _ tw_75) rfl dX3_left_5 ?_
  refine lv_isub hx hb dX3_left_8 ?_
  cases hf
  exact oa_reti hx hb hr hlocks rfl hS hH dX3_left_9
theorem cX3_left_ok (l : Launch) (D : va_G) (ca : Nat → ClassId) (ad : Nat → Nat → Nat) (b0 : Nat) (hw : oa_W ad b0) (n : Nat) (n0 : Nat) (hn0 : n0 < oa_n 1) (M : oa_M) (r : Int32) (M' : oa_M) (hf : FX3_left n n0 M = some (r, M')) : oa_Mi l yX3_left (oa_w yX3_left cX3_left 1 (some .int)) ({ frames := 0, cells := 0, slots := 0, locals := 0 } : Room) D ca ad b0 [.ref (ad 1 n0)] M r M' := cX3_left_k l D ca ad b0 hw n n0 hn0 M (r, M') hf
def FX3_clear (n : Nat) (n0 : Nat) (M : oa_M) : Option (oa_M) := (some (oa_up (oa_up M 1 n0 1 (0 : Int32)) 1 n0 2 (0 : Int32)))
set_option maxHeartbeats 4000000 in
set_option maxRecDepth 100000 in
theorem cX3_clear_k (l : Launch) (D : va_G) (ca : Nat → ClassId) (ad : Nat → Nat → Nat) (b0 : Nat) (hw : oa_W ad b0) (n : Nat) (n0 : Nat) (hn0 : n0 < oa_n 1) (M : oa_M) (o : oa_M) (hf : FX3_clear n n0 M = some o) : oa_Mv l yX3_clear (oa_w yX3_clear cX3_clear 1 none) ({ frames := 0, cells := 0, slots := 0, locals := 0 } : Room) D ca ad b0 [.ref (ad 1 n0)] M o := by
  refine oa_ofW (cc := cX3_clear) (maxL := 1) (ret := none) (by decide) rfl (Nat.le_of_ble_eq_true rfl) ?_
  intro p e s m below meth c hx hb hml hr hlocks hown hts0 hP ls hl
  obtain ⟨hH, hE⟩ := hP
  have hts : ∀ w ∈ oa_T, w.before _ s = true := fun w h => hts0 w (List.mem_cons_of_mem _ h)
  have hS : va_S (fun q => b0 ≤ q) s.heap s.heap [] := va_S.rf
  have C : oa_Cx p s m _ meth c cX3_clear 1 (none) RX3 D ca b0 ad := ⟨hx, hb, hml, hr, hlocks, hown, hts, hE, hw⟩
  have hl : lv_has ls 1 [(0, .ref (ad 1 n0))] := hl
  unfold FX3_clear at hf
  refine lv_aload_n hx hb dX3_clear_0 rfl (lv_at hl 0 rfl) ?_
  refine lv_iconst (v := (0 : Int32)) hx hb dX3_clear_1 (by decide) ?_
  refine oa_put (ci := 3) (C := RX3) (T := TX3) (N := 3) (v := .int (0 : Int32)) (x := (0 : Int32)) hx hb hts inX3 tyX3 tyX3_ok nmX3 hown hE hw hH hS 1 n0 hn0 rfl rfl 1 (by decide) (hts _ tw_73) rfl rfl rfl (Nat.le_of_ble_eq_true rfl) rfl dX3_clear_2 (fun H locs hH hS => ?_)
  refine lv_aload_n hx hb dX3_clear_5 rfl (lv_at hl 0 rfl) ?_
  refine lv_iconst (v := (0 : Int32)) hx hb dX3_clear_6 (by decide) ?_
  refine oa_put (ci := 3) (C := RX3) (T := TX3) (N := 3) (v := .int (0 : Int32)) (x := (0 : Int32)) hx hb hts inX3 tyX3 tyX3_ok nmX3 hown hE hw hH hS 1 n0 hn0 rfl rfl 2 (by decide) (hts _ tw_75) rfl rfl rfl (Nat.le_of_ble_eq_true rfl) rfl dX3_clear_7 (fun H locs hH hS => ?_)
  cases hf
  exact oa_retv hx hb hr hlocks hS hH dX3_clear_10
theorem cX3_clear_ok (l : Launch) (D : va_G) (ca : Nat → ClassId) (ad : Nat → Nat → Nat) (b0 : Nat) (hw : oa_W ad b0) (n : Nat) (n0 : Nat) (hn0 : n0 < oa_n 1) (M : oa_M) (o : oa_M) (hf : FX3_clear n n0 M = some o) : oa_Mv l yX3_clear (oa_w yX3_clear cX3_clear 1 none) ({ frames := 0, cells := 0, slots := 0, locals := 0 } : Room) D ca ad b0 [.ref (ad 1 n0)] M o := cX3_clear_k l D ca ad b0 hw n n0 hn0 M o hf
def BX3_addName_26 (rec3 : Nat → Int32 → Int32 → oa_M → Option (oa_M)) (n : Nat) (n0 : Nat) (x1 : Int32) (x2 : Int32) (x3 : Int32) (M : oa_M) : Option (oa_M) := (rec3 n0 x1 (x2 + (-8 : Int32)) M)
def BX3_addName_3 : Nat → Nat → Int32 → Int32 → oa_M → Option (oa_M)
  | 0, _, _, _, _ => none
  | n + 1, n0, x1, x2, M => (if x2 < 0 then (some M) else (if ((x1 >>> (x2 &&& 31)) &&& (255 : Int32)) = 0 then (BX3_addName_26 (BX3_addName_3 n) n n0 x1 x2 ((x1 >>> (x2 &&& 31)) &&& (255 : Int32)) M) else (oa_bd (FX3_add n n0 (oa_i2c ((x1 >>> (x2 &&& 31)) &&& (255 : Int32))) M) (fun r3 M4 => (BX3_addName_26 (BX3_addName_3 n) n n0 x1 x2 ((x1 >>> (x2 &&& 31)) &&& (255 : Int32)) M4)))))
def FX3_addName (n : Nat) (n0 : Nat) (x1 : Int32) (M : oa_M) : Option (oa_M) := (BX3_addName_3 n n0 x1 (24 : Int32) M)
set_option maxHeartbeats 4000000 in
set_option maxRecDepth 100000 in
theorem bX3_addName_26 {p : Program} {l : Launch} {e : Env} {s : State} {m : MethodId} {args : Array Value} {below : List Frame} {meth : Method} {c : Code} {D : va_G} {ca : Nat → ClassId} {ad : Nat → Nat → Nat} {b0 : Nat} {o : oa_M} (C : oa_Cx p s m args meth c cX3_addName 4 (none) RX3 D ca b0 ad) (rec3 : Nat → Int32 → Int32 → oa_M → Option (oa_M)) (hrec3 : ∀ (n0 : Nat) (hn0 : n0 < oa_n 1) (x1 : Int32) (x2 : Int32) (M : oa_M), rec3 n0 x1 x2 M = some o → ∀ (H : Heap) (locs : List Loc), oa_H D ca ad M H → va_S (fun q => b0 ≤ q) s.heap H locs → ∀ (ls : Array Slot), lv_has ls 4 [(0, .ref (ad 1 n0)), (1, .int x1), (2, .int x2)] → W p l e ({ frames := 1, cells := 0, slots := 0, locals := 21 } : Room) s m args below meth c H locs 0 0 (MQ below (va_Qv (fun (u : oa_M) => u = o) (fun u t => oa_H D ca ad u t.heap) (fun q => b0 ≤ q)) args s 0 0 (fun q => b0 ≤ q)) (F0 m 3 ls [])) : ∀ (n : Nat), ∀ (n0 : Nat) (hn0 : n0 < oa_n 1) (x1 : Int32) (x2 : Int32) (x3 : Int32) (M : oa_M), BX3_addName_26 rec3 n n0 x1 x2 x3 M = some o → ∀ (H : Heap) (locs : List Loc), oa_H D ca ad M H → va_S (fun q => b0 ≤ q) s.heap H locs → ∀ (ls : Array Slot), lv_has ls 4 [(0, .ref (ad 1 n0)), (1, .int x1), (2, .int x2), (3, .int x3)] → W p l e ({ frames := 1, cells := 0, slots := 0, locals := 21 } : Room) s m args below meth c H locs 0 0 (MQ below (va_Qv (fun (u : oa_M) => u = o) (fun u t => oa_H D ca ad u t.heap) (fun q => b0 ≤ q)) args s 0 0 (fun q => b0 ≤ q)) (F0 m 26 ls []) := by
  obtain ⟨hx, hb, hml, hr, hlocks, hown, hts, hE, hw⟩ := id C
  intro n n0 hn0 x1 x2 x3 M hf H locs hH hS ls hl
  unfold BX3_addName_26 at hf
  refine lv_iinc (v := (x2 + (-8 : Int32))) (lv' := [(2, .int (x2 + (-8 : Int32))), (0, .ref (ad 1 n0)), (1, .int x1), (3, .int x3)]) hx hb dX3_addName_26 hl (k := 2) rfl rfl (by decide) rfl (fun ls hl => ?_)
  refine lv_goto (tgt := 3) hx hb dX3_addName_29 (by decide) ?_
  exact hrec3 n0 hn0 x1 (x2 + (-8 : Int32)) _ hf _ _ hH hS _ (lv_sub hl [1, 2, 0] rfl)
set_option maxHeartbeats 4000000 in
set_option maxRecDepth 100000 in
theorem bX3_addName_3 {p : Program} {l : Launch} {e : Env} {s : State} {m : MethodId} {args : Array Value} {below : List Frame} {meth : Method} {c : Code} {D : va_G} {ca : Nat → ClassId} {ad : Nat → Nat → Nat} {b0 : Nat} {o : oa_M} (C : oa_Cx p s m args meth c cX3_addName 4 (none) RX3 D ca b0 ad) : ∀ (n : Nat), ∀ (n0 : Nat) (hn0 : n0 < oa_n 1) (x1 : Int32) (x2 : Int32) (M : oa_M), BX3_addName_3 n n0 x1 x2 M = some o → ∀ (H : Heap) (locs : List Loc), oa_H D ca ad M H → va_S (fun q => b0 ≤ q) s.heap H locs → ∀ (ls : Array Slot), lv_has ls 4 [(0, .ref (ad 1 n0)), (1, .int x1), (2, .int x2)] → W p l e ({ frames := 1, cells := 0, slots := 0, locals := 21 } : Room) s m args below meth c H locs 0 0 (MQ below (va_Qv (fun (u : oa_M) => u = o) (fun u t => oa_H D ca ad u t.heap) (fun q => b0 ≤ q)) args s 0 0 (fun q => b0 ≤ q)) (F0 m 3 ls []) := by
  obtain ⟨hx, hb, hml, hr, hlocks, hown, hts, hE, hw⟩ := id C
  intro n
  induction n with
  | zero => intro n0 hn0 x1 x2 M hf; cases hf
  | succ n ih =>
    intro n0 hn0 x1 x2 M hf H locs hH hS ls hl
    have hrec3 := ih
    unfold BX3_addName_3 at hf
    refine lv_iload_n hx hb dX3_addName_3 rfl (lv_at hl 2 rfl) ?_
    refine lv_if_lt (tgt := 32) hx hb dX3_addName_4 (by decide) (fun hq1 => ?_) (fun hq1 => ?_)
    · rw [if_pos hq1] at hf
      cases hf
      exact oa_retv hx hb hr hlocks hS hH dX3_addName_32
    · rw [if_neg hq1] at hf
      refine lv_iload_n hx hb dX3_addName_7 rfl (lv_at hl 1 rfl) ?_
      refine lv_iload_n hx hb dX3_addName_8 rfl (lv_at hl 2 rfl) ?_
      refine lv_ishr hx hb dX3_addName_9 ?_
      refine lv_sipush (v := (255 : Int32)) hx hb dX3_addName_10 (by decide) ?_
      refine lv_iand hx hb dX3_addName_13 ?_
      refine lv_istore_n (lv' := [(3, .int ((x1 >>> (x2 &&& 31)) &&& (255 : Int32))), (0, .ref (ad 1 n0)), (1, .int x1), (2, .int x2)]) hx hb dX3_addName_14 rfl hl (by decide) rfl (fun ls hl => ?_)
      refine lv_iload_n hx hb dX3_addName_15 rfl (lv_at hl 0 rfl) ?_
      refine lv_if_eq (tgt := 26) hx hb dX3_addName_16 (by decide) (fun hq2 => ?_) (fun hq2 => ?_)
      · rw [if_pos hq2] at hf
        exact bX3_addName_26 C _ hrec3 n n0 hn0 x1 x2 ((x1 >>> (x2 &&& 31)) &&& (255 : Int32)) _ hf _ _ hH hS _ (lv_sub hl [1, 2, 3, 0] rfl)
      · rw [if_neg hq2] at hf
        refine lv_aload_n hx hb dX3_addName_19 rfl (lv_at hl 1 rfl) ?_
        refine lv_iload_n hx hb dX3_addName_20 rfl (lv_at hl 0 rfl) ?_
        refine lv_i2c (v := (oa_i2c ((x1 >>> (x2 &&& 31)) &&& (255 : Int32)))) hx hb dX3_addName_21 rfl ?_
        obtain ⟨r3, M4, hc5, hf⟩ := oa_bdE hf
        refine oa_cvi (As := [.int (oa_i2c ((x1 >>> (x2 &&& 31)) &&& (255 : Int32)))]) (rest := []) ⟨hx, hb, hml, hown, hts⟩ (cX3_add_ok l D ca ad b0 hw n n0 hn0 (oa_i2c ((x1 >>> (x2 &&& 31)) &&& (255 : Int32))) _ _ _ hc5) (cwV 1 hts (oa_gV tw_509 tw_204 tw_205 tw_45 tw_206) rfl rfl rfl (by decide +kernel) ⟨Nat.le_of_ble_eq_true rfl, Nat.le_of_ble_eq_true rfl⟩) hE hH hS (oa_recv (k := 1) (ci := 3) hE hH hn0 rfl rfl) rfl hl.1 rfl (Nat.le_of_ble_eq_true rfl) dX3_addName_22 ⟨by decide, by decide⟩ (fun H locs hH hS => ?_)
        refine lv_pop hx hb dX3_addName_25 rfl ?_
        exact bX3_addName_26 C _ hrec3 n n0 hn0 x1 x2 ((x1 >>> (x2 &&& 31)) &&& (255 : Int32)) _ hf _ _ hH hS _ (lv_sub hl [1, 2, 3, 0] rfl)
set_option maxHeartbeats 4000000 in
set_option maxRecDepth 100000 in
theorem cX3_addName_k (l : Launch) (D : va_G) (ca : Nat → ClassId) (ad : Nat → Nat → Nat) (b0 : Nat) (hw : oa_W ad b0) (n : Nat) (n0 : Nat) (hn0 : n0 < oa_n 1) (x1 : Int32) (M : oa_M) (o : oa_M) (hf : FX3_addName n n0 x1 M = some o) : oa_Mv l yX3_addName (oa_w yX3_addName cX3_addName 4 none) ({ frames := 1, cells := 0, slots := 0, locals := 21 } : Room) D ca ad b0 [.ref (ad 1 n0), .int x1] M o := by
  refine oa_ofW (cc := cX3_addName) (maxL := 4) (ret := none) (by decide) rfl (Nat.le_of_ble_eq_true rfl) ?_
  intro p e s m below meth c hx hb hml hr hlocks hown hts0 hP ls hl
  obtain ⟨hH, hE⟩ := hP
  have hts : ∀ w ∈ oa_T, w.before _ s = true := fun w h => hts0 w (List.mem_cons_of_mem _ h)
  have hS : va_S (fun q => b0 ≤ q) s.heap s.heap [] := va_S.rf
  have C : oa_Cx p s m _ meth c cX3_addName 4 (none) RX3 D ca b0 ad := ⟨hx, hb, hml, hr, hlocks, hown, hts, hE, hw⟩
  have hl : lv_has ls 4 [(0, .ref (ad 1 n0)), (1, .int x1)] := hl
  unfold FX3_addName at hf
  refine lv_bipush (v := (24 : Int32)) hx hb dX3_addName_0 (by decide) ?_
  refine lv_istore_n (lv' := [(2, .int (24 : Int32)), (0, .ref (ad 1 n0)), (1, .int x1)]) hx hb dX3_addName_2 rfl hl (by decide) rfl (fun ls hl => ?_)
  exact bX3_addName_3 C n n0 hn0 x1 (24 : Int32) _ hf _ _ hH hS _ (lv_sub hl [1, 2, 0] rfl)
theorem cX3_addName_ok (l : Launch) (D : va_G) (ca : Nat → ClassId) (ad : Nat → Nat → Nat) (b0 : Nat) (hw : oa_W ad b0) (n : Nat) (n0 : Nat) (hn0 : n0 < oa_n 1) (x1 : Int32) (M : oa_M) (o : oa_M) (hf : FX3_addName n n0 x1 M = some o) : oa_Mv l yX3_addName (oa_w yX3_addName cX3_addName 4 none) ({ frames := 1, cells := 0, slots := 0, locals := 21 } : Room) D ca ad b0 [.ref (ad 1 n0), .int x1] M o := cX3_addName_k l D ca ad b0 hw n n0 hn0 x1 M o hf
def BX3_addNumber_55 (rec25 : Nat → Int32 → Int32 → Int32 → oa_M → Option (oa_M)) (n : Nat) (n0 : Nat) (x1 : Int32) (x2 : Int32) (x3 : Int32) (M : oa_M) : Option (oa_M) := (rec25 n0 x1 x2 (x3 / (10 : Int32)) M)
def BX3_addNumber_40 (rec25 : Nat → Int32 → Int32 → Int32 → oa_M → Option (oa_M)) (n : Nat) (n0 : Nat) (x1 : Int32) (x2 : Int32) (x3 : Int32) (M : oa_M) : Option (oa_M) := (if ¬ x3 = 0 then (oa_bd (FX3_add n n0 (oa_i2c ((48 : Int32) + (oa_rem (x2 / x3) (10 : Int32)))) M) (fun r2 M3 => (BX3_addNumber_55 rec25 n n0 x1 x2 x3 M3))) else none)
def BX3_addNumber_25 : Nat → Nat → Int32 → Int32 → Int32 → oa_M → Option (oa_M)
  | 0, _, _, _, _, _ => none
  | n + 1, n0, x1, x2, x3, M => (if x3 < (1 : Int32) then (some M) else (if x3 ≤ x2 then (BX3_addNumber_40 (BX3_addNumber_25 n) n n0 x1 x2 x3 M) else (if x3 = (1 : Int32) then (BX3_addNumber_40 (BX3_addNumber_25 n) n n0 x1 x2 x3 M) else (BX3_addNumber_55 (BX3_addNumber_25 n) n n0 x1 x2 x3 M))))
def BX3_addNumber_21 (n : Nat) (n0 : Nat) (x1 : Int32) (z0 : Int32) (M : oa_M) : Option (oa_M) := (BX3_addNumber_25 n n0 x1 z0 (100000 : Int32) M)
def BX3_addNumber_11 (n : Nat) (n0 : Nat) (x1 : Int32) (M : oa_M) : Option (oa_M) := (if 0 ≤ x1 then (BX3_addNumber_21 n n0 x1 x1 M) else (BX3_addNumber_21 n n0 x1 (-x1) M))
def FX3_addNumber (n : Nat) (n0 : Nat) (x1 : Int32) (M : oa_M) : Option (oa_M) := (if 0 ≤ x1 then (BX3_addNumber_11 n n0 x1 M) else (oa_bd (FX3_add n n0 (45 : Int32) M) (fun r2 M3 => (BX3_addNumber_11 n n0 x1 M3))))
set_option maxHeartbeats 4000000 in
set_option maxRecDepth 100000 in
theorem bX3_addNumber_55 {p : Program} {l : Launch} {e : Env} {s : State} {m : MethodId} {args : Array Value} {below : List Frame} {meth : Method} {c : Code} {D : va_G} {ca : Nat → ClassId} {ad : Nat → Nat → Nat} {b0 : Nat} {o : oa_M} (C : oa_Cx p s m args meth c cX3_addNumber 4 (none) RX3 D ca b0 ad) (rec25 : Nat → Int32 → Int32 → Int32 → oa_M → Option (oa_M)) (hrec25 : ∀ (n0 : Nat) (hn0 : n0 < oa_n 1) (x1 : Int32) (x2 : Int32) (x3 : Int32) (M : oa_M), rec25 n0 x1 x2 x3 M = some o → ∀ (H : Heap) (locs : List Loc), oa_H D ca ad M H → va_S (fun q => b0 ≤ q) s.heap H locs → ∀ (ls : Array Slot), lv_has ls 4 [(0, .ref (ad 1 n0)), (1, .int x1), (2, .int x2), (3, .int x3)] → W p l e ({ frames := 1, cells := 0, slots := 0, locals := 21 } : Room) s m args below meth c H locs 0 0 (MQ below (va_Qv (fun (u : oa_M) => u = o) (fun u t => oa_H D ca ad u t.heap) (fun q => b0 ≤ q)) args s 0 0 (fun q => b0 ≤ q)) (F0 m 25 ls [])) : ∀ (n : Nat), ∀ (n0 : Nat) (hn0 : n0 < oa_n 1) (x1 : Int32) (x2 : Int32) (x3 : Int32) (M : oa_M), BX3_addNumber_55 rec25 n n0 x1 x2 x3 M = some o → ∀ (H : Heap) (locs : List Loc), oa_H D ca ad M H → va_S (fun q => b0 ≤ q) s.heap H locs → ∀ (ls : Array Slot), lv_has ls 4 [(0, .ref (ad 1 n0)), (1, .int x1), (2, .int x2), (3, .int x3)] → W p l e ({ frames := 1, cells := 0, slots := 0, locals := 21 } : Room) s m args below meth c H locs 0 0 (MQ below (va_Qv (fun (u : oa_M) => u = o) (fun u t => oa_H D ca ad u t.heap) (fun q => b0 ≤ q)) args s 0 0 (fun q => b0 ≤ q)) (F0 m 55 ls []) := by
  obtain ⟨hx, hb, hml, hr, hlocks, hown, hts, hE, hw⟩ := id C
  intro n n0 hn0 x1 x2 x3 M hf H locs hH hS ls hl
  unfold BX3_addNumber_55 at hf
  refine lv_iload_n hx hb dX3_addNumber_55 rfl (lv_at hl 3 rfl) ?_
  refine lv_bipush (v := (10 : Int32)) hx hb dX3_addNumber_56 (by decide) ?_
  refine lv_idiv hx hb dX3_addNumber_58 (by decide) ?_
  refine lv_istore_n (lv' := [(3, .int (x3 / (10 : Int32))), (0, .ref (ad 1 n0)), (1, .int x1), (2, .int x2)]) hx hb dX3_addNumber_59 rfl hl (by decide) rfl (fun ls hl => ?_)
  refine lv_goto (tgt := 25) hx hb dX3_addNumber_60 (by decide) ?_
  exact hrec25 n0 hn0 x1 x2 (x3 / (10 : Int32)) _ hf _ _ hH hS _ (lv_sub hl [1, 2, 3, 0] rfl)
set_option maxHeartbeats 4000000 in
set_option maxRecDepth 100000 in
theorem bX3_addNumber_40 {p : Program} {l : Launch} {e : Env} {s : State} {m : MethodId} {args : Array Value} {below : List Frame} {meth : Method} {c : Code} {D : va_G} {ca : Nat → ClassId} {ad : Nat → Nat → Nat} {b0 : Nat} {o : oa_M} (C : oa_Cx p s m args meth c cX3_addNumber 4 (none) RX3 D ca b0 ad) (rec25 : Nat → Int32 → Int32 → Int32 → oa_M → Option (oa_M)) (hrec25 : ∀ (n0 : Nat) (hn0 : n0 < oa_n 1) (x1 : Int32) (x2 : Int32) (x3 : Int32) (M : oa_M), rec25 n0 x1 x2 x3 M = some o → ∀ (H : Heap) (locs : List Loc), oa_H D ca ad M H → va_S (fun q => b0 ≤ q) s.heap H locs → ∀ (ls : Array Slot), lv_has ls 4 [(0, .ref (ad 1 n0)), (1, .int x1), (2, .int x2), (3, .int x3)] → W p l e ({ frames := 1, cells := 0, slots := 0, locals := 21 } : Room) s m args below meth c H locs 0 0 (MQ below (va_Qv (fun (u : oa_M) => u = o) (fun u t => oa_H D ca ad u t.heap) (fun q => b0 ≤ q)) args s 0 0 (fun q => b0 ≤ q)) (F0 m 25 ls [])) : ∀ (n : Nat), ∀ (n0 : Nat) (hn0 : n0 < oa_n 1) (x1 : Int32) (x2 : Int32) (x3 : Int32) (M : oa_M), BX3_addNumber_40 rec25 n n0 x1 x2 x3 M = some o → ∀ (H : Heap) (locs : List Loc), oa_H D ca ad M H → va_S (fun q => b0 ≤ q) s.heap H locs → ∀ (ls : Array Slot), lv_has ls 4 [(0, .ref (ad 1 n0)), (1, .int x1), (2, .int x2), (3, .int x3)] → W p l e ({ frames := 1, cells := 0, slots := 0, locals := 21 } : Room) s m args below meth c H locs 0 0 (MQ below (va_Qv (fun (u : oa_M) => u = o) (fun u t => oa_H D ca ad u t.heap) (fun q => b0 ≤ q)) args s 0 0 (fun q => b0 ≤ q)) (F0 m 40 ls []) := by
  obtain ⟨hx, hb, hml, hr, hlocks, hown, hts, hE, hw⟩ := id C
  intro n n0 hn0 x1 x2 x3 M hf H locs hH hS ls hl
  unfold BX3_addNumber_40 at hf
  refine lv_aload_n hx hb dX3_addNumber_40 rfl (lv_at hl 0 rfl) ?_
  refine lv_bipush (v := (48 : Int32)) hx hb dX3_addNumber_41 (by decide) ?_
  refine lv_iload_n hx hb dX3_addNumber_43 rfl (lv_at hl 2 rfl) ?_
  refine lv_iload_n hx hb dX3_addNumber_44 rfl (lv_at hl 3 rfl) ?_
  obtain ⟨hk1, hf⟩ := oa_ck hf
  refine lv_idiv hx hb dX3_addNumber_45 hk1 ?_
  refine lv_bipush (v := (10 : Int32)) hx hb dX3_addNumber_46 (by decide) ?_
  refine lv_irem hx hb dX3_addNumber_48 (by decide) ?_
  refine lv_iadd hx hb dX3_addNumber_49 ?_
  refine lv_i2c (v := (oa_i2c ((48 : Int32) + (oa_rem (x2 / x3) (10 : Int32))))) hx hb dX3_addNumber_50 rfl ?_
  obtain ⟨r2, M3, hc4, hf⟩ := oa_bdE hf
  refine oa_cvi (As := [.int (oa_i2c ((48 : Int32) + (oa_rem (x2 / x3) (10 : Int32))))]) (rest := []) ⟨hx, hb, hml, hown, hts⟩ (cX3_add_ok l D ca ad b0 hw n n0 hn0 (oa_i2c ((48 : Int32) + (oa_rem (x2 / x3) (10 : Int32)))) _ _ _ hc4) (cwV 1 hts (oa_gV tw_509 tw_204 tw_205 tw_45 tw_206) rfl rfl rfl (by decide +kernel) ⟨Nat.le_of_ble_eq_true rfl, Nat.le_of_ble_eq_true rfl⟩) hE hH hS (oa_recv (k := 1) (ci := 3) hE hH hn0 rfl rfl) rfl hl.1 rfl (Nat.le_of_ble_eq_true rfl) dX3_addNumber_51 ⟨by decide, by decide⟩ (fun H locs hH hS => ?_)
  refine lv_pop hx hb dX3_addNumber_54 rfl ?_
  exact bX3_addNumber_55 C _ hrec25 n n0 hn0 x1 x2 x3 _ hf _ _ hH hS _ (lv_sub hl [0, 1, 2, 3] rfl)
set_option maxHeartbeats 4000000 in
set_option maxRecDepth 100000 in
theorem bX3_addNumber_25 {p : Program} {l : Launch} {e : Env} {s : State} {m : MethodId} {args : Array Value} {below : List Frame} {meth : Method} {c : Code} {D : va_G} {ca : Nat → ClassId} {ad : Nat → Nat → Nat} {b0 : Nat} {o : oa_M} (C : oa_Cx p s m args meth c cX3_addNumber 4 (none) RX3 D ca b0 ad) : ∀ (n : Nat), ∀ (n0 : Nat) (hn0 : n0 < oa_n 1) (x1 : Int32) (x2 : Int32) (x3 : Int32) (M : oa_M), BX3_addNumber_25 n n0 x1 x2 x3 M = some o → ∀ (H : Heap) (locs : List Loc), oa_H D ca ad M H → va_S (fun q => b0 ≤ q) s.heap H locs → ∀ (ls : Array Slot), lv_has ls 4 [(0, .ref (ad 1 n0)), (1, .int x1), (2, .int x2), (3, .int x3)] → W p l e ({ frames := 1, cells := 0, slots := 0, locals := 21 } : Room) s m args below meth c H locs 0 0 (MQ below (va_Qv (fun (u : oa_M) => u = o) (fun u t => oa_H D ca ad u t.heap) (fun q => b0 ≤ q)) args s 0 0 (fun q => b0 ≤ q)) (F0 m 25 ls []) := by
  obtain ⟨hx, hb, hml, hr, hlocks, hown, hts, hE, hw⟩ := id C
  intro n
  induction n with
  | zero => intro n0 hn0 x1 x2 x3 M hf; cases hf
  | succ n ih =>
    intro n0 hn0 x1 x2 x3 M hf H locs hH hS ls hl
    have hrec25 := ih
    unfold BX3_addNumber_25 at hf
    refine lv_iload_n hx hb dX3_addNumber_25 rfl (lv_at hl 3 rfl) ?_
    refine lv_iconst (v := (1 : Int32)) hx hb dX3_addNumber_26 (by decide) ?_
    refine lv_icmp_lt (tgt := 63) hx hb dX3_addNumber_27 (by decide) (fun hq1 => ?_) (fun hq1 => ?_)
    · rw [if_pos hq1] at hf
      cases hf
      exact oa_retv hx hb hr hlocks hS hH dX3_addNumber_63
    · rw [if_neg hq1] at hf
      refine lv_iload_n hx hb dX3_addNumber_30 rfl (lv_at hl 2 rfl) ?_
      refine lv_iload_n hx hb dX3_addNumber_31 rfl (lv_at hl 3 rfl) ?_
      refine lv_icmp_ge (tgt := 40) hx hb dX3_addNumber_32 (by decide) (fun hq2 => ?_) (fun hq2 => ?_)
      · rw [if_pos hq2] at hf
        exact bX3_addNumber_40 C _ hrec25 n n0 hn0 x1 x2 x3 _ hf _ _ hH hS _ (lv_sub hl [0, 1, 2, 3] rfl)
      · rw [if_neg hq2] at hf
        refine lv_iload_n hx hb dX3_addNumber_35 rfl (lv_at hl 3 rfl) ?_
        refine lv_iconst (v := (1 : Int32)) hx hb dX3_addNumber_36 (by decide) ?_
        refine lv_icmp_ne (tgt := 55) hx hb dX3_addNumber_37 (by decide) (fun hq3 => ?_) (fun hq3 => ?_)
        · rw [if_neg hq3] at hf
          exact bX3_addNumber_55 C _ hrec25 n n0 hn0 x1 x2 x3 _ hf _ _ hH hS _ (lv_sub hl [0, 1, 2, 3] rfl)
        · rw [if_pos hq3] at hf
          exact bX3_addNumber_40 C _ hrec25 n n0 hn0 x1 x2 x3 _ hf _ _ hH hS _ (lv_sub hl [0, 1, 2, 3] rfl)
set_option maxHeartbeats 4000000 in
set_option maxRecDepth 100000 in
theorem bX3_addNumber_21 {p : Program} {l : Launch} {e : Env} {s : State} {m : MethodId} {args : Array Value} {below : List Frame} {meth : Method} {c : Code} {D : va_G} {ca : Nat → ClassId} {ad : Nat → Nat → Nat} {b0 : Nat} {o : oa_M} (C : oa_Cx p s m args meth c cX3_addNumber 4 (none) RX3 D ca b0 ad) : ∀ (n : Nat), ∀ (n0 : Nat) (hn0 : n0 < oa_n 1) (x1 : Int32) (z0 : Int32) (M : oa_M), BX3_addNumber_21 n n0 x1 z0 M = some o → ∀ (H : Heap) (locs : List Loc), oa_H D ca ad M H → va_S (fun q => b0 ≤ q) s.heap H locs → ∀ (ls : Array Slot), lv_has ls 4 [(0, .ref (ad 1 n0)), (1, .int x1)] → W p l e ({ frames := 1, cells := 0, slots := 0, locals := 21 } : Room) s m args below meth c H locs 0 0 (MQ below (va_Qv (fun (u : oa_M) => u = o) (fun u t => oa_H D ca ad u t.heap) (fun q => b0 ≤ q)) args s 0 0 (fun q => b0 ≤ q)) (F0 m 21 ls [.int z0]) := by
  obtain ⟨hx, hb, hml, hr, hlocks, hown, hts, hE, hw⟩ := id C
  intro n n0 hn0 x1 z0 M hf H locs hH hS ls hl
  unfold BX3_addNumber_21 at hf
  refine lv_istore_n (lv' := [(2, .int z0), (0, .ref (ad 1 n0)), (1, .int x1)]) hx hb dX3_addNumber_21 rfl hl (by decide) rfl (fun ls hl => ?_)
  refine lv_ldc (v := (100000 : Int32)) hx hb hown (hts _ tw_514) dX3_addNumber_22 ?_
  refine lv_istore_n (lv' := [(3, .int (100000 : Int32)), (2, .int z0), (0, .ref (ad 1 n0)), (1, .int x1)]) hx hb dX3_addNumber_24 rfl hl (by decide) rfl (fun ls hl => ?_)
  exact bX3_addNumber_25 C n n0 hn0 x1 z0 (100000 : Int32) _ hf _ _ hH hS _ (lv_sub hl [2, 3, 1, 0] rfl)
set_option maxHeartbeats 4000000 in
set_option maxRecDepth 100000 in
theorem bX3_addNumber_11 {p : Program} {l : Launch} {e : Env} {s : State} {m : MethodId} {args : Array Value} {below : List Frame} {meth : Method} {c : Code} {D : va_G} {ca : Nat → ClassId} {ad : Nat → Nat → Nat} {b0 : Nat} {o : oa_M} (C : oa_Cx p s m args meth c cX3_addNumber 4 (none) RX3 D ca b0 ad) : ∀ (n : Nat), ∀ (n0 : Nat) (hn0 : n0 < oa_n 1) (x1 : Int32) (M : oa_M), BX3_addNumber_11 n n0 x1 M = some o → ∀ (H : Heap) (locs : List Loc), oa_H D ca ad M H → va_S (fun q => b0 ≤ q) s.heap H locs → ∀ (ls : Array Slot), lv_has ls 4 [(0, .ref (ad 1 n0)), (1, .int x1)] → W p l e ({ frames := 1, cells := 0, slots := 0, locals := 21 } : Room) s m args below meth c H locs 0 0 (MQ below (va_Qv (fun (u : oa_M) => u = o) (fun u t => oa_H D ca ad u t.heap) (fun q => b0 ≤ q)) args s 0 0 (fun q => b0 ≤ q)) (F0 m 11 ls []) := by
  obtain ⟨hx, hb, hml, hr, hlocks, hown, hts, hE, hw⟩ := id C
  intro n n0 hn0 x1 M hf H locs hH hS ls hl
  unfold BX3_addNumber_11 at hf
  refine lv_iload_n hx hb dX3_addNumber_11 rfl (lv_at hl 1 rfl) ?_
  refine lv_if_ge (tgt := 20) hx hb dX3_addNumber_12 (by decide) (fun hq1 => ?_) (fun hq1 => ?_)
  · rw [if_pos hq1] at hf
    refine lv_iload_n hx hb dX3_addNumber_20 rfl (lv_at hl 1 rfl) ?_
    exact bX3_addNumber_21 C n n0 hn0 x1 x1 _ hf _ _ hH hS _ (lv_sub hl [0, 1] rfl)
  · rw [if_neg hq1] at hf
    refine lv_iload_n hx hb dX3_addNumber_15 rfl (lv_at hl 1 rfl) ?_
    refine lv_ineg hx hb dX3_addNumber_16 ?_
    refine lv_goto (tgt := 21) hx hb dX3_addNumber_17 (by decide) ?_
    exact bX3_addNumber_21 C n n0 hn0 x1 (-x1) _ hf _ _ hH hS _ (lv_sub hl [0, 1] rfl)
set_option maxHeartbeats 4000000 in
set_option maxRecDepth 100000 in
theorem cX3_addNumber_k (l : Launch) (D : va_G) (ca : Nat → ClassId) (ad : Nat → Nat → Nat) (b0 : Nat) (hw : oa_W ad b0) (n : Nat) (n0 : Nat) (hn0 : n0 < oa_n 1) (x1 : Int32) (M : oa_M) (o : oa_M) (hf : FX3_addNumber n n0 x1 M = some o) : oa_Mv l yX3_addNumber (oa_w yX3_addNumber cX3_addNumber 4 none) ({ frames := 1, cells := 0, slots := 0, locals := 21 } : Room) D ca ad b0 [.ref (ad 1 n0), .int x1] M o := by
  refine oa_ofW (cc := cX3_addNumber) (maxL := 4) (ret := none) (by decide) rfl (Nat.le_of_ble_eq_true rfl) ?_
  intro p e s m below meth c hx hb hml hr hlocks hown hts0 hP ls hl
  obtain ⟨hH, hE⟩ := hP
  have hts : ∀ w ∈ oa_T, w.before _ s = true := fun w h => hts0 w (List.mem_cons_of_mem _ h)
  have hS : va_S (fun q => b0 ≤ q) s.heap s.heap [] := va_S.rf
  have C : oa_Cx p s m _ meth c cX3_addNumber 4 (none) RX3 D ca b0 ad := ⟨hx, hb, hml, hr, hlocks, hown, hts, hE, hw⟩
  have hl : lv_has ls 4 [(0, .ref (ad 1 n0)), (1, .int x1)] := hl
  unfold FX3_addNumber at hf
  refine lv_iload_n hx hb dX3_addNumber_0 rfl (lv_at hl 1 rfl) ?_
  refine lv_if_ge (tgt := 11) hx hb dX3_addNumber_1 (by decide) (fun hq1 => ?_) (fun hq1 => ?_)
  · rw [if_pos hq1] at hf
    exact bX3_addNumber_11 C n n0 hn0 x1 _ hf _ _ hH hS _ (lv_sub hl [0, 1] rfl)
  · rw [if_neg hq1] at hf
    refine lv_aload_n hx hb dX3_addNumber_4 rfl (lv_at hl 0 rfl) ?_
    refine lv_bipush (v := (45 : Int32)) hx hb dX3_addNumber_5 (by decide) ?_
    obtain ⟨r2, M3, hc4, hf⟩ := oa_bdE hf
    refine oa_cvi (As := [.int (45 : Int32)]) (rest := []) ⟨hx, hb, hml, hown, hts⟩ (cX3_add_ok l D ca ad b0 hw n n0 hn0 (45 : Int32) _ _ _ hc4) (cwV 1 hts (oa_gV tw_509 tw_204 tw_205 tw_45 tw_206) rfl rfl rfl (by decide +kernel) ⟨Nat.le_of_ble_eq_true rfl, Nat.le_of_ble_eq_true rfl⟩) hE hH hS (oa_recv (k := 1) (ci := 3) hE hH hn0 rfl rfl) rfl hl.1 rfl (Nat.le_of_ble_eq_true rfl) dX3_addNumber_7 ⟨by decide, by decide⟩ (fun H locs hH hS => ?_)
    refine lv_pop hx hb dX3_addNumber_10 rfl ?_
    exact bX3_addNumber_11 C n n0 hn0 x1 _ hf _ _ hH hS _ (lv_sub hl [0, 1] rfl)
theorem cX3_addNumber_ok (l : Launch) (D : va_G) (ca : Nat → ClassId) (ad : Nat → Nat → Nat) (b0 : Nat) (hw : oa_W ad b0) (n : Nat) (n0 : Nat) (hn0 : n0 < oa_n 1) (x1 : Int32) (M : oa_M) (o : oa_M) (hf : FX3_addNumber n n0 x1 M = some o) : oa_Mv l yX3_addNumber (oa_w yX3_addNumber cX3_addNumber 4 none) ({ frames := 1, cells := 0, slots := 0, locals := 21 } : Room) D ca ad b0 [.ref (ad 1 n0), .int x1] M o := cX3_addNumber_k l D ca ad b0 hw n n0 hn0 x1 M o hf
def BX3_takeLabel_22 (n : Nat) (n0 : Nat) (z0 : Int32) (M : oa_M) : Option (Int32 × oa_M) := (some (z0, M))
def FX3_takeLabel (n : Nat) (n0 : Nat) (M : oa_M) : Option (Int32 × oa_M) := (oa_bd (FX3_nextIsWithin n n0 (65 : Int32) (70 : Int32) M) (fun r1 M2 => (if r1 = 0 then (BX3_takeLabel_22 n n0 (-1 : Int32) M2) else (oa_bd (FX3_takeAny n n0 M2) (fun r5 M6 => (BX3_takeLabel_22 n n0 (r5 - (65 : Int32)) M6))))))
set_option maxHeartbeats 4000000 in
set_option maxRecDepth 100000 in
theorem bX3_takeLabel_22 {p : Program} {l : Launch} {e : Env} {s : State} {m : MethodId} {args : Array Value} {below : List Frame} {meth : Method} {c : Code} {D : va_G} {ca : Nat → ClassId} {ad : Nat → Nat → Nat} {b0 : Nat} {o : Int32 × oa_M} (C : oa_Cx p s m args meth c cX3_takeLabel 1 (some .int) RX3 D ca b0 ad) : ∀ (n : Nat), ∀ (n0 : Nat) (hn0 : n0 < oa_n 1) (z0 : Int32) (M : oa_M), BX3_takeLabel_22 n n0 z0 M = some o → ∀ (H : Heap) (locs : List Loc), oa_H D ca ad M H → va_S (fun q => b0 ≤ q) s.heap H locs → ∀ (ls : Array Slot), lv_has ls 1 [(0, .ref (ad 1 n0))] → W p l e ({ frames := 2, cells := 0, slots := 0, locals := 42 } : Room) s m args below meth c H locs 0 0 (MQ below (va_Qi (fun (r' : Int32) (u : oa_M) => r' = o.1 ∧ u = o.2) (fun u t => oa_H D ca ad u t.heap) (fun q => b0 ≤ q)) args s 0 0 (fun q => b0 ≤ q)) (F0 m 22 ls [.int z0]) := by
  obtain ⟨hx, hb, hml, hr, hlocks, hown, hts, hE, hw⟩ := id C
  intro n n0 hn0 z0 M hf H locs hH hS ls hl
  unfold BX3_takeLabel_22 at hf
  cases hf
  exact oa_reti hx hb hr hlocks rfl hS hH dX3_takeLabel_22
set_option maxHeartbeats 4000000 in
set_option maxRecDepth 100000 in
theorem cX3_takeLabel_k (l : Launch) (D : va_G) (ca : Nat → ClassId) (ad : Nat → Nat → Nat) (b0 : Nat) (hw : oa_W ad b0) (n : Nat) (n0 : Nat) (hn0 : n0 < oa_n 1) (M : oa_M) (o : Int32 × oa_M) (hf : FX3_takeLabel n n0 M = some o) : oa_Mi l yX3_takeLabel (oa_w yX3_takeLabel cX3_takeLabel 1 (some .int)) ({ frames := 2, cells := 0, slots := 0, locals := 42 } : Room) D ca ad b0 [.ref (ad 1 n0)] M o.1 o.2 := by
  refine oa_ofW (cc := cX3_takeLabel) (maxL := 1) (ret := some .int) (by decide) rfl (Nat.le_of_ble_eq_true rfl) ?_
  intro p e s m below meth c hx hb hml hr hlocks hown hts0 hP ls hl
  obtain ⟨hH, hE⟩ := hP
  have hts : ∀ w ∈ oa_T, w.before _ s = true := fun w h => hts0 w (List.mem_cons_of_mem _ h)
  have hS : va_S (fun q => b0 ≤ q) s.heap s.heap [] := va_S.rf
  have C : oa_Cx p s m _ meth c cX3_takeLabel 1 (some .int) RX3 D ca b0 ad := ⟨hx, hb, hml, hr, hlocks, hown, hts, hE, hw⟩
  have hl : lv_has ls 1 [(0, .ref (ad 1 n0))] := hl
  unfold FX3_takeLabel at hf
  refine lv_aload_n hx hb dX3_takeLabel_0 rfl (lv_at hl 0 rfl) ?_
  refine lv_bipush (v := (65 : Int32)) hx hb dX3_takeLabel_1 (by decide) ?_
  refine lv_bipush (v := (70 : Int32)) hx hb dX3_takeLabel_3 (by decide) ?_
  obtain ⟨r1, M2, hc3, hf⟩ := oa_bdE hf
  refine oa_cvi (As := [.int (65 : Int32), .int (70 : Int32)]) (rest := []) ⟨hx, hb, hml, hown, hts⟩ (cX3_nextIsWithin_ok l D ca ad b0 hw n n0 hn0 (65 : Int32) (70 : Int32) _ _ _ hc3) (cwV 2 hts (oa_gV tw_266 tw_267 tw_268 tw_45 tw_269) rfl rfl rfl (by decide +kernel) ⟨Nat.le_of_ble_eq_true rfl, Nat.le_of_ble_eq_true rfl⟩) hE hH hS (oa_recv (k := 1) (ci := 3) hE hH hn0 rfl rfl) rfl hl.1 rfl (Nat.le_of_ble_eq_true rfl) dX3_takeLabel_5 ⟨by decide, by decide⟩ (fun H locs hH hS => ?_)
  refine lv_if_eq (tgt := 21) hx hb dX3_takeLabel_8 (by decide) (fun hq4 => ?_) (fun hq4 => ?_)
  · rw [if_pos hq4] at hf
    refine lv_iconst (v := (-1 : Int32)) hx hb dX3_takeLabel_21 (by decide) ?_
    exact bX3_takeLabel_22 C n n0 hn0 (-1 : Int32) _ hf _ _ hH hS _ (lv_sub hl [0] rfl)
  · rw [if_neg hq4] at hf
    refine lv_aload_n hx hb dX3_takeLabel_11 rfl (lv_at hl 0 rfl) ?_
    obtain ⟨r5, M6, hc7, hf⟩ := oa_bdE hf
    refine oa_cvi (As := []) (rest := []) ⟨hx, hb, hml, hown, hts⟩ (cX3_takeAny_ok l D ca ad b0 hw n n0 hn0 _ _ _ hc7) (cwV 0 hts (oa_gV tw_270 tw_271 tw_272 tw_45 tw_273) rfl rfl rfl (by decide +kernel) ⟨Nat.le_of_ble_eq_true rfl, Nat.le_of_ble_eq_true rfl⟩) hE hH hS (oa_recv (k := 1) (ci := 3) hE hH hn0 rfl rfl) rfl hl.1 rfl (Nat.le_of_ble_eq_true rfl) dX3_takeLabel_12 ⟨by decide, by decide⟩ (fun H locs hH hS => ?_)
    refine lv_bipush (v := (65 : Int32)) hx hb dX3_takeLabel_15 (by decide) ?_
    refine lv_isub hx hb dX3_takeLabel_17 ?_
    refine lv_goto (tgt := 22) hx hb dX3_takeLabel_18 (by decide) ?_
    exact bX3_takeLabel_22 C n n0 hn0 (r5 - (65 : Int32)) _ hf _ _ hH hS _ (lv_sub hl [0] rfl)
theorem cX3_takeLabel_ok (l : Launch) (D : va_G) (ca : Nat → ClassId) (ad : Nat → Nat → Nat) (b0 : Nat) (hw : oa_W ad b0) (n : Nat) (n0 : Nat) (hn0 : n0 < oa_n 1) (M : oa_M) (r : Int32) (M' : oa_M) (hf : FX3_takeLabel n n0 M = some (r, M')) : oa_Mi l yX3_takeLabel (oa_w yX3_takeLabel cX3_takeLabel 1 (some .int)) ({ frames := 2, cells := 0, slots := 0, locals := 42 } : Room) D ca ad b0 [.ref (ad 1 n0)] M r M' := cX3_takeLabel_k l D ca ad b0 hw n n0 hn0 M (r, M') hf
def BX3_takeDigits_52 (n : Nat) (n0 : Nat) (x1 : Int32) (x2 : Int32) (M : oa_M) : Option (Int32 × oa_M) := (some (x1, M))
def BX3_takeDigits_17 : Nat → Nat → Int32 → Int32 → oa_M → Option (Int32 × oa_M)
  | 0, _, _, _, _ => none
  | n + 1, n0, x1, x2, M => (if (5 : Int32) ≤ x2 then (BX3_takeDigits_52 n n0 x1 x2 M) else (oa_bd (FX3_nextIsWithin n n0 (48 : Int32) (57 : Int32) M) (fun r2 M3 => (if r2 = 0 then (BX3_takeDigits_52 n n0 x1 x2 M3) else (oa_bd (FX3_takeAny n n0 M3) (fun r6 M7 => (BX3_takeDigits_17 n n0 (((x1 * (10 : Int32)) + r6) - (48 : Int32)) (x2 + (1 : Int32)) M7)))))))
def FX3_takeDigits (n : Nat) (n0 : Nat) (M : oa_M) : Option (Int32 × oa_M) := (oa_bd (FX3_nextIsWithin n n0 (48 : Int32) (57 : Int32) M) (fun r1 M2 => (if r1 = 0 then (some ((-1 : Int32), M2)) else (BX3_takeDigits_17 n n0 (0 : Int32) (0 : Int32) M2))))
set_option maxHeartbeats 4000000 in
set_option maxRecDepth 100000 in
theorem bX3_takeDigits_52 {p : Program} {l : Launch} {e : Env} {s : State} {m : MethodId} {args : Array Value} {below : List Frame} {meth : Method} {c : Code} {D : va_G} {ca : Nat → ClassId} {ad : Nat → Nat → Nat} {b0 : Nat} {o : Int32 × oa_M} (C : oa_Cx p s m args meth c cX3_takeDigits 3 (some .int) RX3 D ca b0 ad) : ∀ (n : Nat), ∀ (n0 : Nat) (hn0 : n0 < oa_n 1) (x1 : Int32) (x2 : Int32) (M : oa_M), BX3_takeDigits_52 n n0 x1 x2 M = some o → ∀ (H : Heap) (locs : List Loc), oa_H D ca ad M H → va_S (fun q => b0 ≤ q) s.heap H locs → ∀ (ls : Array Slot), lv_has ls 3 [(0, .ref (ad 1 n0)), (1, .int x1), (2, .int x2)] → W p l e ({ frames := 2, cells := 0, slots := 0, locals := 42 } : Room) s m args below meth c H locs 0 0 (MQ below (va_Qi (fun (r' : Int32) (u : oa_M) => r' = o.1 ∧ u = o.2) (fun u t => oa_H D ca ad u t.heap) (fun q => b0 ≤ q)) args s 0 0 (fun q => b0 ≤ q)) (F0 m 52 ls []) := by
  obtain ⟨hx, hb, hml, hr, hlocks, hown, hts, hE, hw⟩ := id C
  intro n n0 hn0 x1 x2 M hf H locs hH hS ls hl
  unfold BX3_takeDigits_52 at hf
  refine lv_iload_n hx hb dX3_takeDigits_52 rfl (lv_at hl 1 rfl) ?_
  cases hf
  exact oa_reti hx hb hr hlocks rfl hS hH dX3_takeDigits_53
set_option maxHeartbeats 4000000 in
set_option maxRecDepth 100000 in
theorem bX3_takeDigits_17 {p : Program} {l : Launch} {e : Env} {s : State} {m : MethodId} {args : Array Value} {below : List Frame} {meth : Method} {c : Code} {D : va_G} {ca : Nat → ClassId} {ad : Nat → Nat → Nat} {b0 : Nat} {o : Int32 × oa_M} (C : oa_Cx p s m args meth c cX3_takeDigits 3 (some .int) RX3 D ca b0 ad) : ∀ (n : Nat), ∀ (n0 : Nat) (hn0 : n0 < oa_n 1) (x1 : Int32) (x2 : Int32) (M : oa_M), BX3_takeDigits_17 n n0 x1 x2 M = some o → ∀ (H : Heap) (locs : List Loc), oa_H D ca ad M H → va_S (fun q => b0 ≤ q) s.heap H locs → ∀ (ls : Array Slot), lv_has ls 3 [(0, .ref (ad 1 n0)), (1, .int x1), (2, .int x2)] → W p l e ({ frames := 2, cells := 0, slots := 0, locals := 42 } : Room) s m args below meth c H locs 0 0 (MQ below (va_Qi (fun (r' : Int32) (u : oa_M) => r' = o.1 ∧ u = o.2) (fun u t => oa_H D ca ad u t.heap) (fun q => b0 ≤ q)) args s 0 0 (fun q => b0 ≤ q)) (F0 m 17 ls []) := by
  obtain ⟨hx, hb, hml, hr, hlocks, hown, hts, hE, hw⟩ := id C
  intro n
  induction n with
  | zero => intro n0 hn0 x1 x2 M hf; cases hf
  | succ n ih =>
    intro n0 hn0 x1 x2 M hf H locs hH hS ls hl
    have hrec17 := ih
    unfold BX3_takeDigits_17 at hf
    refine lv_iload_n hx hb dX3_takeDigits_17 rfl (lv_at hl 2 rfl) ?_
    refine lv_iconst (v := (5 : Int32)) hx hb dX3_takeDigits_18 (by decide) ?_
    refine lv_icmp_ge (tgt := 52) hx hb dX3_takeDigits_19 (by decide) (fun hq1 => ?_) (fun hq1 => ?_)
    · rw [if_pos hq1] at hf
      exact bX3_takeDigits_52 C n n0 hn0 x1 x2 _ hf _ _ hH hS _ (lv_sub hl [0, 1, 2] rfl)
    · rw [if_neg hq1] at hf
      refine lv_aload_n hx hb dX3_takeDigits_22 rfl (lv_at hl 0 rfl) ?_
      refine lv_bipush (v := (48 : Int32)) hx hb dX3_takeDigits_23 (by decide) ?_
      refine lv_bipush (v := (57 : Int32)) hx hb dX3_takeDigits_25 (by decide) ?_
      obtain ⟨r2, M3, hc4, hf⟩ := oa_bdE hf
      refine oa_cvi (As := [.int (48 : Int32), .int (57 : Int32)]) (rest := []) ⟨hx, hb, hml, hown, hts⟩ (cX3_nextIsWithin_ok l D ca ad b0 hw n n0 hn0 (48 : Int32) (57 : Int32) _ _ _ hc4) (cwV 2 hts (oa_gV tw_266 tw_267 tw_268 tw_45 tw_269) rfl rfl rfl (by decide +kernel) ⟨Nat.le_of_ble_eq_true rfl, Nat.le_of_ble_eq_true rfl⟩) hE hH hS (oa_recv (k := 1) (ci := 3) hE hH hn0 rfl rfl) rfl hl.1 rfl (Nat.le_of_ble_eq_true rfl) dX3_takeDigits_27 ⟨by decide, by decide⟩ (fun H locs hH hS => ?_)
      refine lv_if_eq (tgt := 52) hx hb dX3_takeDigits_30 (by decide) (fun hq5 => ?_) (fun hq5 => ?_)
      · rw [if_pos hq5] at hf
        exact bX3_takeDigits_52 C n n0 hn0 x1 x2 _ hf _ _ hH hS _ (lv_sub hl [0, 1, 2] rfl)
      · rw [if_neg hq5] at hf
        refine lv_iload_n hx hb dX3_takeDigits_33 rfl (lv_at hl 1 rfl) ?_
        refine lv_bipush (v := (10 : Int32)) hx hb dX3_takeDigits_34 (by decide) ?_
        refine lv_imul hx hb dX3_takeDigits_36 ?_
        refine lv_aload_n hx hb dX3_takeDigits_37 rfl (lv_at hl 0 rfl) ?_
        obtain ⟨r6, M7, hc8, hf⟩ := oa_bdE hf
        refine oa_cvi (As := []) (rest := [.int (x1 * (10 : Int32))]) ⟨hx, hb, hml, hown, hts⟩ (cX3_takeAny_ok l D ca ad b0 hw n n0 hn0 _ _ _ hc8) (cwV 0 hts (oa_gV tw_270 tw_271 tw_272 tw_45 tw_273) rfl rfl rfl (by decide +kernel) ⟨Nat.le_of_ble_eq_true rfl, Nat.le_of_ble_eq_true rfl⟩) hE hH hS (oa_recv (k := 1) (ci := 3) hE hH hn0 rfl rfl) rfl hl.1 rfl (Nat.le_of_ble_eq_true rfl) dX3_takeDigits_38 ⟨by decide, by decide⟩ (fun H locs hH hS => ?_)
        refine lv_iadd hx hb dX3_takeDigits_41 ?_
        refine lv_bipush (v := (48 : Int32)) hx hb dX3_takeDigits_42 (by decide) ?_
        refine lv_isub hx hb dX3_takeDigits_44 ?_
        refine lv_istore_n (lv' := [(1, .int (((x1 * (10 : Int32)) + r6) - (48 : Int32))), (0, .ref (ad 1 n0)), (2, .int x2)]) hx hb dX3_takeDigits_45 rfl hl (by decide) rfl (fun ls hl => ?_)
        refine lv_iinc (v := (x2 + (1 : Int32))) (lv' := [(2, .int (x2 + (1 : Int32))), (1, .int (((x1 * (10 : Int32)) + r6) - (48 : Int32))), (0, .ref (ad 1 n0))]) hx hb dX3_takeDigits_46 hl (k := 2) rfl rfl (by decide) rfl (fun ls hl => ?_)
        refine lv_goto (tgt := 17) hx hb dX3_takeDigits_49 (by decide) ?_
        exact hrec17 n0 hn0 (((x1 * (10 : Int32)) + r6) - (48 : Int32)) (x2 + (1 : Int32)) _ hf _ _ hH hS _ (lv_sub hl [2, 1, 0] rfl)
set_option maxHeartbeats 4000000 in
set_option maxRecDepth 100000 in
theorem cX3_takeDigits_k (l : Launch) (D : va_G) (ca : Nat → ClassId) (ad : Nat → Nat → Nat) (b0 : Nat) (hw : oa_W ad b0) (n : Nat) (n0 : Nat) (hn0 : n0 < oa_n 1) (M : oa_M) (o : Int32 × oa_M) (hf : FX3_takeDigits n n0 M = some o) : oa_Mi l yX3_takeDigits (oa_w yX3_takeDigits cX3_takeDigits 3 (some .int)) ({ frames := 2, cells := 0, slots := 0, locals := 42 } : Room) D ca ad b0 [.ref (ad 1 n0)] M o.1 o.2 := by
  refine oa_ofW (cc := cX3_takeDigits) (maxL := 3) (ret := some .int) (by decide) rfl (Nat.le_of_ble_eq_true rfl) ?_
  intro p e s m below meth c hx hb hml hr hlocks hown hts0 hP ls hl
  obtain ⟨hH, hE⟩ := hP
  have hts : ∀ w ∈ oa_T, w.before _ s = true := fun w h => hts0 w (List.mem_cons_of_mem _ h)
  have hS : va_S (fun q => b0 ≤ q) s.heap s.heap [] := va_S.rf
  have C : oa_Cx p s m _ meth c cX3_takeDigits 3 (some .int) RX3 D ca b0 ad := ⟨hx, hb, hml, hr, hlocks, hown, hts, hE, hw⟩
  have hl : lv_has ls 3 [(0, .ref (ad 1 n0))] := hl
  unfold FX3_takeDigits at hf
  refine lv_aload_n hx hb dX3_takeDigits_0 rfl (lv_at hl 0 rfl) ?_
  refine lv_bipush (v := (48 : Int32)) hx hb dX3_takeDigits_1 (by decide) ?_
  refine lv_bipush (v := (57 : Int32)) hx hb dX3_takeDigits_3 (by decide) ?_
  obtain ⟨r1, M2, hc3, hf⟩ := oa_bdE hf
  refine oa_cvi (As := [.int (48 : Int32), .int (57 : Int32)]) (rest := []) ⟨hx, hb, hml, hown, hts⟩ (cX3_nextIsWithin_ok l D ca ad b0 hw n n0 hn0 (48 : Int32) (57 : Int32) _ _ _ hc3) (cwV 2 hts (oa_gV tw_266 tw_267 tw_268 tw_45 tw_269) rfl rfl rfl (by decide +kernel) ⟨Nat.le_of_ble_eq_true rfl, Nat.le_of_ble_eq_true rfl⟩) hE hH hS (oa_recv (k := 1) (ci := 3) hE hH hn0 rfl rfl) rfl hl.1 rfl (Nat.le_of_ble_eq_true rfl) dX3_takeDigits_5 ⟨by decide, by decide⟩ (fun H locs hH hS => ?_)
  refine lv_if_ne (tgt := 13) hx hb dX3_takeDigits_8 (by decide) (fun hq4 => ?_) (fun hq4 => ?_)
  · rw [if_neg hq4] at hf
    refine lv_iconst (v := (0 : Int32)) hx hb dX3_takeDigits_13 (by decide) ?_
    refine lv_istore_n (lv' := [(1, .int (0 : Int32)), (0, .ref (ad 1 n0))]) hx hb dX3_takeDigits_14 rfl hl (by decide) rfl (fun ls hl => ?_)
    refine lv_iconst (v := (0 : Int32)) hx hb dX3_takeDigits_15 (by decide) ?_
    refine lv_istore_n (lv' := [(2, .int (0 : Int32)), (1, .int (0 : Int32)), (0, .ref (ad 1 n0))]) hx hb dX3_takeDigits_16 rfl hl (by decide) rfl (fun ls hl => ?_)
    exact bX3_takeDigits_17 C n n0 hn0 (0 : Int32) (0 : Int32) _ hf _ _ hH hS _ (lv_sub hl [2, 1, 0] rfl)
  · rw [if_pos hq4] at hf
    refine lv_iconst (v := (-1 : Int32)) hx hb dX3_takeDigits_11 (by decide) ?_
    cases hf
    exact oa_reti hx hb hr hlocks rfl hS hH dX3_takeDigits_12
theorem cX3_takeDigits_ok (l : Launch) (D : va_G) (ca : Nat → ClassId) (ad : Nat → Nat → Nat) (b0 : Nat) (hw : oa_W ad b0) (n : Nat) (n0 : Nat) (hn0 : n0 < oa_n 1) (M : oa_M) (r : Int32) (M' : oa_M) (hf : FX3_takeDigits n n0 M = some (r, M')) : oa_Mi l yX3_takeDigits (oa_w yX3_takeDigits cX3_takeDigits 3 (some .int)) ({ frames := 2, cells := 0, slots := 0, locals := 42 } : Room) D ca ad b0 [.ref (ad 1 n0)] M r M' := cX3_takeDigits_k l D ca ad b0 hw n n0 hn0 M (r, M') hf
end
section
def FJ6_bitCount_0f7a4 (n : Nat) (x0 : Int32) (M : oa_M) : Option (Int32 × oa_M) := (some (((((((((x0 - ((oa_ushr x0 (1 : Int32)) &&& (1431655765 : Int32))) &&& (858993459 : Int32)) + ((oa_ushr (x0 - ((oa_ushr x0 (1 : Int32)) &&& (1431655765 : Int32))) (2 : Int32)) &&& (858993459 : Int32))) + (oa_ushr (((x0 - ((oa_ushr x0 (1 : Int32)) &&& (1431655765 : Int32))) &&& (858993459 : Int32)) + ((oa_ushr (x0 - ((oa_ushr x0 (1 : Int32)) &&& (1431655765 : Int32))) (2 : Int32)) &&& (858993459 : Int32))) (4 : Int32))) &&& (252645135 : Int32)) + (oa_ushr (((((x0 - ((oa_ushr x0 (1 : Int32)) &&& (1431655765 : Int32))) &&& (858993459 : Int32)) + ((oa_ushr (x0 - ((oa_ushr x0 (1 : Int32)) &&& (1431655765 : Int32))) (2 : Int32)) &&& (858993459 : Int32))) + (oa_ushr (((x0 - ((oa_ushr x0 (1 : Int32)) &&& (1431655765 : Int32))) &&& (858993459 : Int32)) + ((oa_ushr (x0 - ((oa_ushr x0 (1 : Int32)) &&& (1431655765 : Int32))) (2 : Int32)) &&& (858993459 : Int32))) (4 : Int32))) &&& (252645135 : Int32)) (8 : Int32))) + (oa_ushr ((((((x0 - ((oa_ushr x0 (1 : Int32)) &&& (1431655765 : Int32))) &&& (858993459 : Int32)) + ((oa_ushr (x0 - ((oa_ushr x0 (1 : Int32)) &&& (1431655765 : Int32))) (2 : Int32)) &&& (858993459 : Int32))) + (oa_ushr (((x0 - ((oa_ushr x0 (1 : Int32)) &&& (1431655765 : Int32))) &&& (858993459 : Int32)) + ((oa_ushr (x0 - ((oa_ushr x0 (1 : Int32)) &&& (1431655765 : Int32))) (2 : Int32)) &&& (858993459 : Int32))) (4 : Int32))) &&& (252645135 : Int32)) + (oa_ushr (((((x0 - ((oa_ushr x0 (1 : Int32)) &&& (1431655765 : Int32))) &&& (858993459 : Int32)) + ((oa_ushr (x0 - ((oa_ushr x0 (1 : Int32)) &&& (1431655765 : Int32))) (2 : Int32)) &&& (858993459 : Int32))) + (oa_ushr (((x0 - ((oa_ushr x0 (1 : Int32)) &&& (1431655765 : Int32))) &&& (858993459 : Int32)) + ((oa_ushr (x0 - ((oa_ushr x0 (1 : Int32)) &&& (1431655765 : Int32))) (2 : Int32)) &&& (858993459 : Int32))) (4 : Int32))) &&& (252645135 : Int32)) (8 : Int32))) (16 : Int32))) &&& (63 : Int32)), M))
set_option maxHeartbeats 4000000 in
set_option maxRecDepth 100000 in
theorem cJ6_bitCount_0f7a4_k (l : Launch) (D : va_G) (ca : Nat → ClassId) (ad : Nat → Nat → Nat) (b0 : Nat) (hw : oa_W ad b0) (n : Nat) (x0 : Int32) (M : oa_M) (o : Int32 × oa_M) (hf : FJ6_bitCount_0f7a4 n x0 M = some o) : oa_Mi l yJ6_bitCount_0f7a4 (oa_w yJ6_bitCount_0f7a4 cJ6_bitCount_0f7a4 1 (some .int)) ({ frames := 0, cells := 0, slots := 0, locals := 0 } : Room) D ca ad b0 [.int x0] M o.1 o.2 := by
  refine oa_ofW (cc := cJ6_bitCount_0f7a4) (maxL := 1) (ret := some .int) (by decide) rfl (Nat.le_of_ble_eq_true rfl) ?_
  intro p e s m below meth c hx hb hml hr hlocks hown hts0 hP ls hl
  obtain ⟨hH, hE⟩ := hP
  have hts : ∀ w ∈ oa_T, w.before _ s = true := fun w h => hts0 w (List.mem_cons_of_mem _ h)
  have hS : va_S (fun q => b0 ≤ q) s.heap s.heap [] := va_S.rf
  have C : oa_Cx p s m _ meth c cJ6_bitCount_0f7a4 1 (some .int) RJ6 D ca b0 ad := ⟨hx, hb, hml, hr, hlocks, hown, hts, hE, hw⟩
  have hl : lv_has ls 1 [(0, .int x0)] := hl
  unfold FJ6_bitCount_0f7a4 at hf
  refine lv_iload_n hx hb dJ6_bitCount_0f7a4_0 rfl (lv_at hl 0 rfl) ?_
  refine lv_iload_n hx hb dJ6_bitCount_0f7a4_1 rfl (lv_at hl 0 rfl) ?_
  refine lv_iconst (v := (1 : Int32)) hx hb dJ6_bitCount_0f7a4_2 (by decide) ?_
  refine lv_iushr (v := (oa_ushr x0 (1 : Int32))) hx hb dJ6_bitCount_0f7a4_3 rfl ?_
  refine lv_ldcw (v := (1431655765 : Int32)) hx hb hown (hts _ tw_226) dJ6_bitCount_0f7a4_4 ?_
  refine lv_iand hx hb dJ6_bitCount_0f7a4_7 ?_
  refine lv_isub hx hb dJ6_bitCount_0f7a4_8 ?_
  refine lv_istore_n (lv' := [(0, .int (x0 - ((oa_ushr x0 (1 : Int32)) &&& (1431655765 : Int32))))]) hx hb dJ6_bitCount_0f7a4_9 rfl hl (by decide) rfl (fun ls hl => ?_)
  refine lv_iload_n hx hb dJ6_bitCount_0f7a4_10 rfl (lv_at hl 0 rfl) ?_
  refine lv_ldcw (v := (858993459 : Int32)) hx hb hown (hts _ tw_227) dJ6_bitCount_0f7a4_11 ?_
  refine lv_iand hx hb dJ6_bitCount_0f7a4_14 ?_
  refine lv_iload_n hx hb dJ6_bitCount_0f7a4_15 rfl (lv_at hl 0 rfl) ?_
  refine lv_iconst (v := (2 : Int32)) hx hb dJ6_bitCount_0f7a4_16 (by decide) ?_
  refine lv_iushr (v := (oa_ushr (x0 - ((oa_ushr x0 (1 : Int32)) &&& (1431655765 : Int32))) (2 : Int32))) hx hb dJ6_bitCount_0f7a4_17 rfl ?_
  refine lv_ldcw (v := (858993459 : Int32)) hx hb hown (hts _ tw_227) dJ6_bitCount_0f7a4_18 ?_
  refine lv_iand hx hb dJ6_bitCount_0f7a4_21 ?_
  refine lv_iadd hx hb dJ6_bitCount_0f7a4_22 ?_
  refine lv_istore_n (lv' := [(0, .int (((x0 - ((oa_ushr x0 (1 : Int32)) &&& (1431655765 : Int32))) &&& (858993459 : Int32)) + ((oa_ushr (x0 - ((oa_ushr x0 (1 : Int32)) &&& (1431655765 : Int32))) (2 : Int32)) &&& (858993459 : Int32))))]) hx hb dJ6_bitCount_0f7a4_23 rfl hl (by decide) rfl (fun ls hl => ?_)
  refine lv_iload_n hx hb dJ6_bitCount_0f7a4_24 rfl (lv_at hl 0 rfl) ?_
  refine lv_iload_n hx hb dJ6_bitCount_0f7a4_25 rfl (lv_at hl 0 rfl) ?_
  refine lv_iconst (v := (4 : Int32)) hx hb dJ6_bitCount_0f7a4_26 (by decide) ?_
  refine lv_iushr (v := (oa_ushr (((x0 - ((oa_ushr x0 (1 : Int32)) &&& (1431655765 : Int32))) &&& (858993459 : Int32)) + ((oa_ushr (x0 - ((oa_ushr x0 (1 : Int32)) &&& (1431655765 : Int32))) (2 : Int32)) &&& (858993459 : Int32))) (4 : Int32))) hx hb dJ6_bitCount_0f7a4_27 rfl ?_
  refine lv_iadd hx hb dJ6_bitCount_0f7a4_28 ?_
  refine lv_ldcw (v := (252645135 : Int32)) hx hb hown (hts _ tw_228) dJ6_bitCount_0f7a4_29 ?_
  refine lv_iand hx hb dJ6_bitCount_0f7a4_32 ?_
  refine lv_istore_n (lv' := [(0, .int (((((x0 - ((oa_ushr x0 (1 : Int32)) &&& (1431655765 : Int32))) &&& (858993459 : Int32)) + ((oa_ushr (x0 - ((oa_ushr x0 (1 : Int32)) &&& (1431655765 : Int32))) (2 : Int32)) &&& (858993459 : Int32))) + (oa_ushr (((x0 - ((oa_ushr x0 (1 : Int32)) &&& (1431655765 : Int32))) &&& (858993459 : Int32)) + ((oa_ushr (x0 - ((oa_ushr x0 (1 : Int32)) &&& (1431655765 : Int32))) (2 : Int32)) &&& (858993459 : Int32))) (4 : Int32))) &&& (252645135 : Int32)))]) hx hb dJ6_bitCount_0f7a4_33 rfl hl (by decide) rfl (fun ls hl => ?_)
  refine lv_iload_n hx hb dJ6_bitCount_0f7a4_34 rfl (lv_at hl 0 rfl) ?_
  refine lv_iload_n hx hb dJ6_bitCount_0f7a4_35 rfl (lv_at hl 0 rfl) ?_
  refine lv_bipush (v := (8 : Int32)) hx hb dJ6_bitCount_0f7a4_36 (by decide) ?_
  refine lv_iushr (v := (oa_ushr (((((x0 - ((oa_ushr x0 (1 : Int32)) &&& (1431655765 : Int32))) &&& (858993459 : Int32)) + ((oa_ushr (x0 - ((oa_ushr x0 (1 : Int32)) &&& (1431655765 : Int32))) (2 : Int32)) &&& (858993459 : Int32))) + (oa_ushr (((x0 - ((oa_ushr x0 (1 : Int32)) &&& (1431655765 : Int32))) &&& (858993459 : Int32)) + ((oa_ushr (x0 - ((oa_ushr x0 (1 : Int32)) &&& (1431655765 : Int32))) (2 : Int32)) &&& (858993459 : Int32))) (4 : Int32))) &&& (252645135 : Int32)) (8 : Int32))) hx hb dJ6_bitCount_0f7a4_38 rfl ?_
  refine lv_iadd hx hb dJ6_bitCount_0f7a4_39 ?_
  refine lv_istore_n (lv' := [(0, .int ((((((x0 - ((oa_ushr x0 (1 : Int32)) &&& (1431655765 : Int32))) &&& (858993459 : Int32)) + ((oa_ushr (x0 - ((oa_ushr x0 (1 : Int32)) &&& (1431655765 : Int32))) (2 : Int32)) &&& (858993459 : Int32))) + (oa_ushr (((x0 - ((oa_ushr x0 (1 : Int32)) &&& (1431655765 : Int32))) &&& (858993459 : Int32)) + ((oa_ushr (x0 - ((oa_ushr x0 (1 : Int32)) &&& (1431655765 : Int32))) (2 : Int32)) &&& (858993459 : Int32))) (4 : Int32))) &&& (252645135 : Int32)) + (oa_ushr (((((x0 - ((oa_ushr x0 (1 : Int32)) &&& (1431655765 : Int32))) &&& (858993459 : Int32)) + ((oa_ushr (x0 - ((oa_ushr x0 (1 : Int32)) &&& (1431655765 : Int32))) (2 : Int32)) &&& (858993459 : Int32))) + (oa_ushr (((x0 - ((oa_ushr x0 (1 : Int32)) &&& (1431655765 : Int32))) &&& (858993459 : Int32)) + ((oa_ushr (x0 - ((oa_ushr x0 (1 : Int32)) &&& (1431655765 : Int32))) (2 : Int32)) &&& (858993459 : Int32))) (4 : Int32))) &&& (252645135 : Int32)) (8 : Int32))))]) hx hb dJ6_bitCount_0f7a4_40 rfl hl (by decide) rfl (fun ls hl => ?_)
  refine lv_iload_n hx hb dJ6_bitCount_0f7a4_41 rfl (lv_at hl 0 rfl) ?_
  refine lv_iload_n hx hb dJ6_bitCount_0f7a4_42 rfl (lv_at hl 0 rfl) ?_
  refine lv_bipush (v := (16 : Int32)) hx hb dJ6_bitCount_0f7a4_43 (by decide) ?_
  refine lv_iushr (v := (oa_ushr ((((((x0 - ((oa_ushr x0 (1 : Int32)) &&& (1431655765 : Int32))) &&& (858993459 : Int32)) + ((oa_ushr (x0 - ((oa_ushr x0 (1 : Int32)) &&& (1431655765 : Int32))) (2 : Int32)) &&& (858993459 : Int32))) + (oa_ushr (((x0 - ((oa_ushr x0 (1 : Int32)) &&& (1431655765 : Int32))) &&& (858993459 : Int32)) + ((oa_ushr (x0 - ((oa_ushr x0 (1 : Int32)) &&& (1431655765 : Int32))) (2 : Int32)) &&& (858993459 : Int32))) (4 : Int32))) &&& (252645135 : Int32)) + (oa_ushr (((((x0 - ((oa_ushr x0 (1 : Int32)) &&& (1431655765 : Int32))) &&& (858993459 : Int32)) + ((oa_ushr (x0 - ((oa_ushr x0 (1 : Int32)) &&& (1431655765 : Int32))) (2 : Int32)) &&& (858993459 : Int32))) + (oa_ushr (((x0 - ((oa_ushr x0 (1 : Int32)) &&& (1431655765 : Int32))) &&& (858993459 : Int32)) + ((oa_ushr (x0 - ((oa_ushr x0 (1 : Int32)) &&& (1431655765 : Int32))) (2 : Int32)) &&& (858993459 : Int32))) (4 : Int32))) &&& (252645135 : Int32)) (8 : Int32))) (16 : Int32))) hx hb dJ6_bitCount_0f7a4_45 rfl ?_
  refine lv_iadd hx hb dJ6_bitCount_0f7a4_46 ?_
  refine lv_istore_n (lv' := [(0, .int (((((((x0 - ((oa_ushr x0 (1 : Int32)) &&& (1431655765 : Int32))) &&& (858993459 : Int32)) + ((oa_ushr (x0 - ((oa_ushr x0 (1 : Int32)) &&& (1431655765 : Int32))) (2 : Int32)) &&& (858993459 : Int32))) + (oa_ushr (((x0 - ((oa_ushr x0 (1 : Int32)) &&& (1431655765 : Int32))) &&& (858993459 : Int32)) + ((oa_ushr (x0 - ((oa_ushr x0 (1 : Int32)) &&& (1431655765 : Int32))) (2 : Int32)) &&& (858993459 : Int32))) (4 : Int32))) &&& (252645135 : Int32)) + (oa_ushr (((((x0 - ((oa_ushr x0 (1 : Int32)) &&& (1431655765 : Int32))) &&& (858993459 : Int32)) + ((oa_ushr (x0 - ((oa_ushr x0 (1 : Int32)) &&& (1431655765 : Int32))) (2 : Int32)) &&& (858993459 : Int32))) + (oa_ushr (((x0 - ((oa_ushr x0 (1 : Int32)) &&& (1431655765 : Int32))) &&& (858993459 : Int32)) + ((oa_ushr (x0 - ((oa_ushr x0 (1 : Int32)) &&& (1431655765 : Int32))) (2 : Int32)) &&& (858993459 : Int32))) (4 : Int32))) &&& (252645135 : Int32)) (8 : Int32))) + (oa_ushr ((((((x0 - ((oa_ushr x0 (1 : Int32)) &&& (1431655765 : Int32))) &&& (858993459 : Int32)) + ((oa_ushr (x0 - ((oa_ushr x0 (1 : Int32)) &&& (1431655765 : Int32))) (2 : Int32)) &&& (858993459 : Int32))) + (oa_ushr (((x0 - ((oa_ushr x0 (1 : Int32)) &&& (1431655765 : Int32))) &&& (858993459 : Int32)) + ((oa_ushr (x0 - ((oa_ushr x0 (1 : Int32)) &&& (1431655765 : Int32))) (2 : Int32)) &&& (858993459 : Int32))) (4 : Int32))) &&& (252645135 : Int32)) + (oa_ushr (((((x0 - ((oa_ushr x0 (1 : Int32)) &&& (1431655765 : Int32))) &&& (858993459 : Int32)) + ((oa_ushr (x0 - ((oa_ushr x0 (1 : Int32)) &&& (1431655765 : Int32))) (2 : Int32)) &&& (858993459 : Int32))) + (oa_ushr (((x0 - ((oa_ushr x0 (1 : Int32)) &&& (1431655765 : Int32))) &&& (858993459 : Int32)) + ((oa_ushr (x0 - ((oa_ushr x0 (1 : Int32)) &&& (1431655765 : Int32))) (2 : Int32)) &&& (858993459 : Int32))) (4 : Int32))) &&& (252645135 : Int32)) (8 : Int32))) (16 : Int32))))]) hx hb dJ6_bitCount_0f7a4_47 rfl hl (by decide) rfl (fun ls hl => ?_)
  refine lv_iload_n hx hb dJ6_bitCount_0f7a4_48 rfl (lv_at hl 0 rfl) ?_
  refine lv_bipush (v := (63 : Int32)) hx hb dJ6_bitCount_0f7a4_49 (by decide) ?_
  refine lv_iand hx hb dJ6_bitCount_0f7a4_51 ?_
  cases hf
  exact oa_reti hx hb hr hlocks rfl hS hH dJ6_bitCount_0f7a4_52
theorem cJ6_bitCount_0f7a4_ok (l : Launch) (D : va_G) (ca : Nat → ClassId) (ad : Nat → Nat → Nat) (b0 : Nat) (hw : oa_W ad b0) (n : Nat) (x0 : Int32) (M : oa_M) (r : Int32) (M' : oa_M) (hf : FJ6_bitCount_0f7a4 n x0 M = some (r, M')) : oa_Mi l yJ6_bitCount_0f7a4 (oa_w yJ6_bitCount_0f7a4 cJ6_bitCount_0f7a4 1 (some .int)) ({ frames := 0, cells := 0, slots := 0, locals := 0 } : Room) D ca ad b0 [.int x0] M r M' := cJ6_bitCount_0f7a4_k l D ca ad b0 hw n x0 M (r, M') hf
def FX2_width (n : Nat) (n0 : Nat) (M : oa_M) : Option (Int32 × oa_M) := (oa_bd (FJ6_bitCount_0f7a4 n (M 7 n0 0) M) (fun r1 M2 => (some (r1, M2))))
set_option maxHeartbeats 4000000 in
set_option maxRecDepth 100000 in
theorem cX2_width_k (l : Launch) (D : va_G) (ca : Nat → ClassId) (ad : Nat → Nat → Nat) (b0 : Nat) (hw : oa_W ad b0) (n : Nat) (n0 : Nat) (hn0 : n0 < oa_n 7) (M : oa_M) (o : Int32 × oa_M) (hf : FX2_width n n0 M = some o) : oa_Mi l yX2_width (oa_w yX2_width cX2_width 1 (some .int)) ({ frames := 1, cells := 0, slots := 0, locals := 20 } : Room) D ca ad b0 [.ref (ad 7 n0)] M o.1 o.2 := by
  refine oa_ofW (cc := cX2_width) (maxL := 1) (ret := some .int) (by decide) rfl (Nat.le_of_ble_eq_true rfl) ?_
  intro p e s m below meth c hx hb hml hr hlocks hown hts0 hP ls hl
  obtain ⟨hH, hE⟩ := hP
  have hts : ∀ w ∈ oa_T, w.before _ s = true := fun w h => hts0 w (List.mem_cons_of_mem _ h)
  have hS : va_S (fun q => b0 ≤ q) s.heap s.heap [] := va_S.rf
  have C : oa_Cx p s m _ meth c cX2_width 1 (some .int) RX2 D ca b0 ad := ⟨hx, hb, hml, hr, hlocks, hown, hts, hE, hw⟩
  have hl : lv_has ls 1 [(0, .ref (ad 7 n0))] := hl
  unfold FX2_width at hf
  refine lv_aload_n hx hb dX2_width_0 rfl (lv_at hl 0 rfl) ?_
  refine oa_get (ci := 2) (C := RX2) (T := TX2) (N := 4) (v := .int (M 7 n0 0)) hx hb hts inX2 hown hE hH 7 n0 hn0 rfl rfl 0 (by decide) (hts _ tw_98) rfl dX2_width_1 ?_
  obtain ⟨r1, M2, hc3, hf⟩ := oa_bdE hf
  refine oa_csi (As := [.int (M 7 n0 0)]) (rest := []) ⟨hx, hb, hml, hown, hts⟩ (cJ6_bitCount_0f7a4_ok l D ca ad b0 hw n (M 7 n0 0) _ _ _ hc3) (va_cwS 1 hts (oa_gS tw_300 tw_224 tw_50 tw_225) rfl rfl rfl (by decide +kernel) ⟨Nat.le_of_ble_eq_true rfl, Nat.le_of_ble_eq_true rfl⟩) hE hH hS rfl hl.1 rfl (Nat.le_of_ble_eq_true rfl) dX2_width_4 ⟨by decide, by decide⟩ (fun H locs hH hS => ?_)
  cases hf
  exact oa_reti hx hb hr hlocks rfl hS hH dX2_width_7
theorem cX2_width_ok (l : Launch) (D : va_G) (ca : Nat → ClassId) (ad : Nat → Nat → Nat) (b0 : Nat) (hw : oa_W ad b0) (n : Nat) (n0 : Nat) (hn0 : n0 < oa_n 7) (M : oa_M) (r : Int32) (M' : oa_M) (hf : FX2_width n n0 M = some (r, M')) : oa_Mi l yX2_width (oa_w yX2_width cX2_width 1 (some .int)) ({ frames := 1, cells := 0, slots := 0, locals := 20 } : Room) D ca ad b0 [.ref (ad 7 n0)] M r M' := cX2_width_k l D ca ad b0 hw n n0 hn0 M (r, M') hf
def BX2_lowest_20 (n : Nat) (n0 : Nat) (z0 : Int32) (M : oa_M) : Option (Int32 × oa_M) := (some (z0, M))
def FX2_lowest (n : Nat) (n0 : Nat) (M : oa_M) : Option (Int32 × oa_M) := (if (M 7 n0 1) = 0 then (BX2_lowest_20 n n0 (0 : Int32) M) else (oa_bd (FX2_width n n0 M) (fun r2 M3 => (BX2_lowest_20 n n0 (-(((1 : Int32) <<< (r2 &&& 31)) >>> ((1 : Int32) &&& 31))) M3))))
set_option maxHeartbeats 4000000 in
set_option maxRecDepth 100000 in
theorem bX2_lowest_20 {p : Program} {l : Launch} {e : Env} {s : State} {m : MethodId} {args : Array Value} {below : List Frame} {meth : Method} {c : Code} {D : va_G} {ca : Nat → ClassId} {ad : Nat → Nat → Nat} {b0 : Nat} {o : Int32 × oa_M} (C : oa_Cx p s m args meth c cX2_lowest 1 (some .int) RX2 D ca b0 ad) : ∀ (n : Nat), ∀ (n0 : Nat) (hn0 : n0 < oa_n 7) (z0 : Int32) (M : oa_M), BX2_lowest_20 n n0 z0 M = some o → ∀ (H : Heap) (locs : List Loc), oa_H D ca ad M H → va_S (fun q => b0 ≤ q) s.heap H locs → ∀ (ls : Array Slot), lv_has ls 1 [(0, .ref (ad 7 n0))] → W p l e ({ frames := 2, cells := 0, slots := 0, locals := 40 } : Room) s m args below meth c H locs 0 0 (MQ below (va_Qi (fun (r' : Int32) (u : oa_M) => r' = o.1 ∧ u = o.2) (fun u t => oa_H D ca ad u t.heap) (fun q => b0 ≤ q)) args s 0 0 (fun q => b0 ≤ q)) (F0 m 20 ls [.int z0]) := by
  obtain ⟨hx, hb, hml, hr, hlocks, hown, hts, hE, hw⟩ := id C
  intro n n0 hn0 z0 M hf H locs hH hS ls hl
  unfold BX2_lowest_20 at hf
  cases hf
  exact oa_reti hx hb hr hlocks rfl hS hH dX2_lowest_20
set_option maxHeartbeats 4000000 in
set_option maxRecDepth 100000 in
theorem cX2_lowest_k (l : Launch) (D : va_G) (ca : Nat → ClassId) (ad : Nat → Nat → Nat) (b0 : Nat) (hw : oa_W ad b0) (n : Nat) (n0 : Nat) (hn0 : n0 < oa_n 7) (M : oa_M) (o : Int32 × oa_M) (hf : FX2_lowest n n0 M = some o) : oa_Mi l yX2_lowest (oa_w yX2_lowest cX2_lowest 1 (some .int)) ({ frames := 2, cells := 0, slots := 0, locals := 40 } : Room) D ca ad b0 [.ref (ad 7 n0)] M o.1 o.2 := by
  refine oa_ofW (cc := cX2_lowest) (maxL := 1) (ret := some .int) (by decide) rfl (Nat.le_of_ble_eq_true rfl) ?_
  intro p e s m below meth c hx hb hml hr hlocks hown hts0 hP ls hl
  obtain ⟨hH, hE⟩ := hP
  have hts : ∀ w ∈ oa_T, w.before _ s = true := fun w h => hts0 w (List.mem_cons_of_mem _ h)
  have hS : va_S (fun q => b0 ≤ q) s.heap s.heap [] := va_S.rf
  have C : oa_Cx p s m _ meth c cX2_lowest 1 (some .int) RX2 D ca b0 ad := ⟨hx, hb, hml, hr, hlocks, hown, hts, hE, hw⟩
  have hl : lv_has ls 1 [(0, .ref (ad 7 n0))] := hl
  unfold FX2_lowest at hf
  refine lv_aload_n hx hb dX2_lowest_0 rfl (lv_at hl 0 rfl) ?_
  refine oa_get (ci := 2) (C := RX2) (T := TX2) (N := 4) (v := .int (M 7 n0 1)) hx hb hts inX2 hown hE hH 7 n0 hn0 rfl rfl 1 (by decide) (hts _ tw_100) rfl dX2_lowest_1 ?_
  refine lv_if_ne (tgt := 11) hx hb dX2_lowest_4 (by decide) (fun hq1 => ?_) (fun hq1 => ?_)
  · rw [if_neg hq1] at hf
    refine lv_iconst (v := (1 : Int32)) hx hb dX2_lowest_11 (by decide) ?_
    refine lv_aload_n hx hb dX2_lowest_12 rfl (lv_at hl 0 rfl) ?_
    obtain ⟨r2, M3, hc4, hf⟩ := oa_bdE hf
    refine oa_cvi (As := []) (rest := [.int (1 : Int32)]) ⟨hx, hb, hml, hown, hts⟩ (cX2_width_ok l D ca ad b0 hw n n0 hn0 _ _ _ hc4) (cwV 0 hts (oa_gV tw_489 tw_297 tw_298 tw_47 tw_299) rfl rfl rfl (by decide +kernel) ⟨Nat.le_of_ble_eq_true rfl, Nat.le_of_ble_eq_true rfl⟩) hE hH hS (oa_recv (k := 7) (ci := 2) hE hH hn0 rfl rfl) rfl hl.1 rfl (Nat.le_of_ble_eq_true rfl) dX2_lowest_13 ⟨by decide, by decide⟩ (fun H locs hH hS => ?_)
    refine lv_ishl hx hb dX2_lowest_16 ?_
    refine lv_iconst (v := (1 : Int32)) hx hb dX2_lowest_17 (by decide) ?_
    refine lv_ishr hx hb dX2_lowest_18 ?_
    refine lv_ineg hx hb dX2_lowest_19 ?_
    exact bX2_lowest_20 C n n0 hn0 (-(((1 : Int32) <<< (r2 &&& 31)) >>> ((1 : Int32) &&& 31))) _ hf _ _ hH hS _ (lv_sub hl [0] rfl)
  · rw [if_pos hq1] at hf
    refine lv_iconst (v := (0 : Int32)) hx hb dX2_lowest_7 (by decide) ?_
    refine lv_goto (tgt := 20) hx hb dX2_lowest_8 (by decide) ?_
    exact bX2_lowest_20 C n n0 hn0 (0 : Int32) _ hf _ _ hH hS _ (lv_sub hl [0] rfl)
theorem cX2_lowest_ok (l : Launch) (D : va_G) (ca : Nat → ClassId) (ad : Nat → Nat → Nat) (b0 : Nat) (hw : oa_W ad b0) (n : Nat) (n0 : Nat) (hn0 : n0 < oa_n 7) (M : oa_M) (r : Int32) (M' : oa_M) (hf : FX2_lowest n n0 M = some (r, M')) : oa_Mi l yX2_lowest (oa_w yX2_lowest cX2_lowest 1 (some .int)) ({ frames := 2, cells := 0, slots := 0, locals := 40 } : Room) D ca ad b0 [.ref (ad 7 n0)] M r M' := cX2_lowest_k l D ca ad b0 hw n n0 hn0 M (r, M') hf
def FX2_highest (n : Nat) (n0 : Nat) (M : oa_M) : Option (Int32 × oa_M) := (oa_bd (FX2_lowest n n0 M) (fun r1 M2 => (oa_bd (FX2_width n n0 M2) (fun r4 M5 => (some (((r1 + ((1 : Int32) <<< (r4 &&& 31))) - (1 : Int32)), M5))))))
set_option maxHeartbeats 4000000 in
set_option maxRecDepth 100000 in
theorem cX2_highest_k (l : Launch) (D : va_G) (ca : Nat → ClassId) (ad : Nat → Nat → Nat) (b0 : Nat) (hw : oa_W ad b0) (n : Nat) (n0 : Nat) (hn0 : n0 < oa_n 7) (M : oa_M) (o : Int32 × oa_M) (hf : FX2_highest n n0 M = some o) : oa_Mi l yX2_highest (oa_w yX2_highest cX2_highest 1 (some .int)) ({ frames := 3, cells := 0, slots := 0, locals := 60 } : Room) D ca ad b0 [.ref (ad 7 n0)] M o.1 o.2 := by
  refine oa_ofW (cc := cX2_highest) (maxL := 1) (ret := some .int) (by decide) rfl (Nat.le_of_ble_eq_true rfl) ?_
  intro p e s m below meth c hx hb hml hr hlocks hown hts0 hP ls hl
  obtain ⟨hH, hE⟩ := hP
  have hts : ∀ w ∈ oa_T, w.before _ s = true := fun w h => hts0 w (List.mem_cons_of_mem _ h)
  have hS : va_S (fun q => b0 ≤ q) s.heap s.heap [] := va_S.rf
  have C : oa_Cx p s m _ meth c cX2_highest 1 (some .int) RX2 D ca b0 ad := ⟨hx, hb, hml, hr, hlocks, hown, hts, hE, hw⟩
  have hl : lv_has ls 1 [(0, .ref (ad 7 n0))] := hl
  unfold FX2_highest at hf
  refine lv_aload_n hx hb dX2_highest_0 rfl (lv_at hl 0 rfl) ?_
  obtain ⟨r1, M2, hc3, hf⟩ := oa_bdE hf
  refine oa_cvi (As := []) (rest := []) ⟨hx, hb, hml, hown, hts⟩ (cX2_lowest_ok l D ca ad b0 hw n n0 hn0 _ _ _ hc3) (cwV 0 hts (oa_gV tw_485 tw_486 tw_487 tw_47 tw_488) rfl rfl rfl (by decide +kernel) ⟨Nat.le_of_ble_eq_true rfl, Nat.le_of_ble_eq_true rfl⟩) hE hH hS (oa_recv (k := 7) (ci := 2) hE hH hn0 rfl rfl) rfl hl.1 rfl (Nat.le_of_ble_eq_true rfl) dX2_highest_1 ⟨by decide, by decide⟩ (fun H locs hH hS => ?_)
  refine lv_iconst (v := (1 : Int32)) hx hb dX2_highest_4 (by decide) ?_
  refine lv_aload_n hx hb dX2_highest_5 rfl (lv_at hl 0 rfl) ?_
  obtain ⟨r4, M5, hc6, hf⟩ := oa_bdE hf
  refine oa_cvi (As := []) (rest := [.int (1 : Int32), .int r1]) ⟨hx, hb, hml, hown, hts⟩ (cX2_width_ok l D ca ad b0 hw n n0 hn0 _ _ _ hc6) (cwV 0 hts (oa_gV tw_489 tw_297 tw_298 tw_47 tw_299) rfl rfl rfl (by decide +kernel) ⟨Nat.le_of_ble_eq_true rfl, Nat.le_of_ble_eq_true rfl⟩) hE hH hS (oa_recv (k := 7) (ci := 2) hE hH hn0 rfl rfl) rfl hl.1 rfl (Nat.le_of_ble_eq_true rfl) dX2_highest_6 ⟨by decide, by decide⟩ (fun H locs hH hS => ?_)
  refine lv_ishl hx hb dX2_highest_9 ?_
  refine lv_iadd hx hb dX2_highest_10 ?_
  refine lv_iconst (v := (1 : Int32)) hx hb dX2_highest_11 (by decide) ?_
  refine lv_isub hx hb dX2_highest_12 ?_
  cases hf
  exact oa_reti hx hb hr hlocks rfl hS hH dX2_highest_13
theorem cX2_highest_ok (l : Launch) (D : va_G) (ca : Nat → ClassId) (ad : Nat → Nat → Nat) (b0 : Nat) (hw : oa_W ad b0) (n : Nat) (n0 : Nat) (hn0 : n0 < oa_n 7) (M : oa_M) (r : Int32) (M' : oa_M) (hf : FX2_highest n n0 M = some (r, M')) : oa_Mi l yX2_highest (oa_w yX2_highest cX2_highest 1 (some .int)) ({ frames := 3, cells := 0, slots := 0, locals := 60 } : Room) D ca ad b0 [.ref (ad 7 n0)] M r M' := cX2_highest_k l D ca ad b0 hw n n0 hn0 M (r, M') hf
def BX2_base_21 (n : Nat) (n0 : Nat) (x1 : Int32) (z0 : Int32) (M : oa_M) : Option (Int32 × oa_M) := (some (z0, M))
def FX2_base (n : Nat) (n0 : Nat) (x1 : Int32) (M : oa_M) : Option (Int32 × oa_M) := (if (M 7 n0 1) = (2 : Int32) then (BX2_base_21 n n0 x1 ((M 7 n0 3) + x1) M) else (BX2_base_21 n n0 x1 (M 7 n0 3) M))
set_option maxHeartbeats 4000000 in
set_option maxRecDepth 100000 in
theorem bX2_base_21 {p : Program} {l : Launch} {e : Env} {s : State} {m : MethodId} {args : Array Value} {below : List Frame} {meth : Method} {c : Code} {D : va_G} {ca : Nat → ClassId} {ad : Nat → Nat → Nat} {b0 : Nat} {o : Int32 × oa_M} (C : oa_Cx p s m args meth c cX2_base 2 (some .int) RX2 D ca b0 ad) : ∀ (n : Nat), ∀ (n0 : Nat) (hn0 : n0 < oa_n 7) (x1 : Int32) (z0 : Int32) (M : oa_M), BX2_base_21 n n0 x1 z0 M = some o → ∀ (H : Heap) (locs : List Loc), oa_H D ca ad M H → va_S (fun q => b0 ≤ q) s.heap H locs → ∀ (ls : Array Slot), lv_has ls 2 [(0, .ref (ad 7 n0)), (1, .int x1)] → W p l e ({ frames := 0, cells := 0, slots := 0, locals := 0 } : Room) s m args below meth c H locs 0 0 (MQ below (va_Qi (fun (r' : Int32) (u : oa_M) => r' = o.1 ∧ u = o.2) (fun u t => oa_H D ca ad u t.heap) (fun q => b0 ≤ q)) args s 0 0 (fun q => b0 ≤ q)) (F0 m 21 ls [.int z0]) := by
  obtain ⟨hx, hb, hml, hr, hlocks, hown, hts, hE, hw⟩ := id C
  intro n n0 hn0 x1 z0 M hf H locs hH hS ls hl
  unfold BX2_base_21 at hf
  cases hf
  exact oa_reti hx hb hr hlocks rfl hS hH dX2_base_21
set_option maxHeartbeats 4000000 in
set_option maxRecDepth 100000 in
theorem cX2_base_k (l : Launch) (D : va_G) (ca : Nat → ClassId) (ad : Nat → Nat → Nat) (b0 : Nat) (hw : oa_W ad b0) (n : Nat) (n0 : Nat) (hn0 : n0 < oa_n 7) (x1 : Int32) (M : oa_M) (o : Int32 × oa_M) (hf : FX2_base n n0 x1 M = some o) : oa_Mi l yX2_base (oa_w yX2_base cX2_base 2 (some .int)) ({ frames := 0, cells := 0, slots := 0, locals := 0 } : Room) D ca ad b0 [.ref (ad 7 n0), .int x1] M o.1 o.2 := by
  refine oa_ofW (cc := cX2_base) (maxL := 2) (ret := some .int) (by decide) rfl (Nat.le_of_ble_eq_true rfl) ?_
  intro p e s m below meth c hx hb hml hr hlocks hown hts0 hP ls hl
  obtain ⟨hH, hE⟩ := hP
  have hts : ∀ w ∈ oa_T, w.before _ s = true := fun w h => hts0 w (List.mem_cons_of_mem _ h)
  have hS : va_S (fun q => b0 ≤ q) s.heap s.heap [] := va_S.rf
  have C : oa_Cx p s m _ meth c cX2_base 2 (some .int) RX2 D ca b0 ad := ⟨hx, hb, hml, hr, hlocks, hown, hts, hE, hw⟩
  have hl : lv_has ls 2 [(0, .ref (ad 7 n0)), (1, .int x1)] := hl
  unfold FX2_base at hf
  refine lv_aload_n hx hb dX2_base_0 rfl (lv_at hl 0 rfl) ?_
  refine oa_get (ci := 2) (C := RX2) (T := TX2) (N := 4) (v := .int (M 7 n0 1)) hx hb hts inX2 hown hE hH 7 n0 hn0 rfl rfl 1 (by decide) (hts _ tw_100) rfl dX2_base_1 ?_
  refine lv_iconst (v := (2 : Int32)) hx hb dX2_base_4 (by decide) ?_
  refine lv_icmp_ne (tgt := 17) hx hb dX2_base_5 (by decide) (fun hq1 => ?_) (fun hq1 => ?_)
  · rw [if_neg hq1] at hf
    refine lv_aload_n hx hb dX2_base_17 rfl (lv_at hl 0 rfl) ?_
    refine oa_get (ci := 2) (C := RX2) (T := TX2) (N := 4) (v := .int (M 7 n0 3)) hx hb hts inX2 hown hE hH 7 n0 hn0 rfl rfl 3 (by decide) (hts _ tw_104) rfl dX2_base_18 ?_
    exact bX2_base_21 C n n0 hn0 x1 (M 7 n0 3) _ hf _ _ hH hS _ (lv_sub hl [0, 1] rfl)
  · rw [if_pos hq1] at hf
    refine lv_aload_n hx hb dX2_base_8 rfl (lv_at hl 0 rfl) ?_
    refine oa_get (ci := 2) (C := RX2) (T := TX2) (N := 4) (v := .int (M 7 n0 3)) hx hb hts inX2 hown hE hH 7 n0 hn0 rfl rfl 3 (by decide) (hts _ tw_104) rfl dX2_base_9 ?_
    refine lv_iload_n hx hb dX2_base_12 rfl (lv_at hl 1 rfl) ?_
    refine lv_iadd hx hb dX2_base_13 ?_
    refine lv_goto (tgt := 21) hx hb dX2_base_14 (by decide) ?_
    exact bX2_base_21 C n n0 hn0 x1 ((M 7 n0 3) + x1) _ hf _ _ hH hS _ (lv_sub hl [0, 1] rfl)
theorem cX2_base_ok (l : Launch) (D : va_G) (ca : Nat → ClassId) (ad : Nat → Nat → Nat) (b0 : Nat) (hw : oa_W ad b0) (n : Nat) (n0 : Nat) (hn0 : n0 < oa_n 7) (x1 : Int32) (M : oa_M) (r : Int32) (M' : oa_M) (hf : FX2_base n n0 x1 M = some (r, M')) : oa_Mi l yX2_base (oa_w yX2_base cX2_base 2 (some .int)) ({ frames := 0, cells := 0, slots := 0, locals := 0 } : Room) D ca ad b0 [.ref (ad 7 n0), .int x1] M r M' := cX2_base_k l D ca ad b0 hw n n0 hn0 x1 M (r, M') hf
def BX2_valueIn_58 (n : Nat) (n0 : Nat) (x1 : Int32) (x2 : Int32) (x3 : Int32) (x4 : Int32) (M : oa_M) : Option (Int32 × oa_M) := (oa_bd (FX2_base n n0 x2 M) (fun r1 M2 => (some (((x3 * (M 7 n0 2)) + r1), M2))))
def BX2_valueIn_35 (rec6 : Nat → Int32 → Int32 → Int32 → Int32 → oa_M → Option (Int32 × oa_M)) (n : Nat) (n0 : Nat) (x1 : Int32) (x2 : Int32) (x3 : Int32) (x4 : Int32) (M : oa_M) : Option (Int32 × oa_M) := (rec6 n0 x1 x2 x3 (x4 + (-1 : Int32)) M)
def BX2_valueIn_6 : Nat → Nat → Int32 → Int32 → Int32 → Int32 → oa_M → Option (Int32 × oa_M)
  | 0, _, _, _, _, _, _ => none
  | n + 1, n0, x1, x2, x3, x4, M => (if x4 < 0 then (oa_bd (FX2_highest n n0 M) (fun r2 M3 => (if x3 ≤ r2 then (BX2_valueIn_58 n n0 x1 x2 x3 x4 M3) else (oa_bd (FX2_width n n0 M3) (fun r6 M7 => (BX2_valueIn_58 n n0 x1 x2 (x3 - ((1 : Int32) <<< (r6 &&& 31))) x4 M7)))))) else (if (((M 7 n0 0) >>> (x4 &&& 31)) &&& (1 : Int32)) = (1 : Int32) then (BX2_valueIn_35 (BX2_valueIn_6 n) n n0 x1 x2 ((x3 <<< ((1 : Int32) &&& 31)) ||| ((x1 >>> (x4 &&& 31)) &&& (1 : Int32))) x4 M) else (BX2_valueIn_35 (BX2_valueIn_6 n) n n0 x1 x2 x3 x4 M)))
def FX2_valueIn (n : Nat) (n0 : Nat) (x1 : Int32) (x2 : Int32) (M : oa_M) : Option (Int32 × oa_M) := (BX2_valueIn_6 n n0 x1 x2 (0 : Int32) (23 : Int32) M)
set_option maxHeartbeats 4000000 in
set_option maxRecDepth 100000 in
theorem bX2_valueIn_58 {p : Program} {l : Launch} {e : Env} {s : State} {m : MethodId} {args : Array Value} {below : List Frame} {meth : Method} {c : Code} {D : va_G} {ca : Nat → ClassId} {ad : Nat → Nat → Nat} {b0 : Nat} {o : Int32 × oa_M} (C : oa_Cx p s m args meth c cX2_valueIn 5 (some .int) RX2 D ca b0 ad) : ∀ (n : Nat), ∀ (n0 : Nat) (hn0 : n0 < oa_n 7) (x1 : Int32) (x2 : Int32) (x3 : Int32) (x4 : Int32) (M : oa_M), BX2_valueIn_58 n n0 x1 x2 x3 x4 M = some o → ∀ (H : Heap) (locs : List Loc), oa_H D ca ad M H → va_S (fun q => b0 ≤ q) s.heap H locs → ∀ (ls : Array Slot), lv_has ls 5 [(0, .ref (ad 7 n0)), (1, .int x1), (2, .int x2), (3, .int x3), (4, .int x4)] → W p l e ({ frames := 4, cells := 0, slots := 0, locals := 80 } : Room) s m args below meth c H locs 0 0 (MQ below (va_Qi (fun (r' : Int32) (u : oa_M) => r' = o.1 ∧ u = o.2) (fun u t => oa_H D ca ad u t.heap) (fun q => b0 ≤ q)) args s 0 0 (fun q => b0 ≤ q)) (F0 m 58 ls []) := by
  obtain ⟨hx, hb, hml, hr, hlocks, hown, hts, hE, hw⟩ := id C
  intro n n0 hn0 x1 x2 x3 x4 M hf H locs hH hS ls hl
  unfold BX2_valueIn_58 at hf
  refine lv_iload_n hx hb dX2_valueIn_58 rfl (lv_at hl 3 rfl) ?_
  refine lv_aload_n hx hb dX2_valueIn_59 rfl (lv_at hl 0 rfl) ?_
  refine oa_get (ci := 2) (C := RX2) (T := TX2) (N := 4) (v := .int (M 7 n0 2)) hx hb hts inX2 hown hE hH 7 n0 hn0 rfl rfl 2 (by decide) (hts _ tw_102) rfl dX2_valueIn_60 ?_
  refine lv_imul hx hb dX2_valueIn_63 ?_
  refine lv_aload_n hx hb dX2_valueIn_64 rfl (lv_at hl 0 rfl) ?_
  refine lv_iload_n hx hb dX2_valueIn_65 rfl (lv_at hl 2 rfl) ?_
  obtain ⟨r1, M2, hc3, hf⟩ := oa_bdE hf
  refine oa_cvi (As := [.int x2]) (rest := [.int (x3 * (M 7 n0 2))]) ⟨hx, hb, hml, hown, hts⟩ (cX2_base_ok l D ca ad b0 hw n n0 hn0 x2 _ _ _ hc3) (cwV 1 hts (oa_gV tw_490 tw_491 tw_492 tw_47 tw_493) rfl rfl rfl (by decide +kernel) ⟨Nat.le_of_ble_eq_true rfl, Nat.le_of_ble_eq_true rfl⟩) hE hH hS (oa_recv (k := 7) (ci := 2) hE hH hn0 rfl rfl) rfl hl.1 rfl (Nat.le_of_ble_eq_true rfl) dX2_valueIn_66 ⟨by decide, by decide⟩ (fun H locs hH hS => ?_)
  refine lv_iadd hx hb dX2_valueIn_69 ?_
  cases hf
  exact oa_reti hx hb hr hlocks rfl hS hH dX2_valueIn_70
set_option maxHeartbeats 4000000 in
set_option maxRecDepth 100000 in
theorem bX2_valueIn_35 {p : Program} {l : Launch} {e : Env} {s : State} {m : MethodId} {args : Array Value} {below : List Frame} {meth : Method} {c : Code} {D : va_G} {ca : Nat → ClassId} {ad : Nat → Nat → Nat} {b0 : Nat} {o : Int32 × oa_M} (C : oa_Cx p s m args meth c cX2_valueIn 5 (some .int) RX2 D ca b0 ad) (rec6 : Nat → Int32 → Int32 → Int32 → Int32 → oa_M → Option (Int32 × oa_M)) (hrec6 : ∀ (n0 : Nat) (hn0 : n0 < oa_n 7) (x1 : Int32) (x2 : Int32) (x3 : Int32) (x4 : Int32) (M : oa_M), rec6 n0 x1 x2 x3 x4 M = some o → ∀ (H : Heap) (locs : List Loc), oa_H D ca ad M H → va_S (fun q => b0 ≤ q) s.heap H locs → ∀ (ls : Array Slot), lv_has ls 5 [(0, .ref (ad 7 n0)), (1, .int x1), (2, .int x2), (3, .int x3), (4, .int x4)] → W p l e ({ frames := 4, cells := 0, slots := 0, locals := 80 } : Room) s m args below meth c H locs 0 0 (MQ below (va_Qi (fun (r' : Int32) (u : oa_M) => r' = o.1 ∧ u = o.2) (fun u t => oa_H D ca ad u t.heap) (fun q => b0 ≤ q)) args s 0 0 (fun q => b0 ≤ q)) (F0 m 6 ls [])) : ∀ (n : Nat), ∀ (n0 : Nat) (hn0 : n0 < oa_n 7) (x1 : Int32) (x2 : Int32) (x3 : Int32) (x4 : Int32) (M : oa_M), BX2_valueIn_35 rec6 n n0 x1 x2 x3 x4 M = some o → ∀ (H : Heap) (locs : List Loc), oa_H D ca ad M H → va_S (fun q => b0 ≤ q) s.heap H locs → ∀ (ls : Array Slot), lv_has ls 5 [(0, .ref (ad 7 n0)), (1, .int x1), (2, .int x2), (3, .int x3), (4, .int x4)] → W p l e ({ frames := 4, cells := 0, slots := 0, locals := 80 } : Room) s m args below meth c H locs 0 0 (MQ below (va_Qi (fun (r' : Int32) (u : oa_M) => r' = o.1 ∧ u = o.2) (fun u t => oa_H D ca ad u t.heap) (fun q => b0 ≤ q)) args s 0 0 (fun q => b0 ≤ q)) (F0 m 35 ls []) := by
  obtain ⟨hx, hb, hml, hr, hlocks, hown, hts, hE, hw⟩ := id C
  intro n n0 hn0 x1 x2 x3 x4 M hf H locs hH hS ls hl
  unfold BX2_valueIn_35 at hf
  refine lv_iinc (v := (x4 + (-1 : Int32))) (lv' := [(4, .int (x4 + (-1 : Int32))), (0, .ref (ad 7 n0)), (1, .int x1), (2, .int x2), (3, .int x3)]) hx hb dX2_valueIn_35 hl (k := 4) rfl rfl (by decide) rfl (fun ls hl => ?_)
  refine lv_goto (tgt := 6) hx hb dX2_valueIn_38 (by decide) ?_
  exact hrec6 n0 hn0 x1 x2 x3 (x4 + (-1 : Int32)) _ hf _ _ hH hS _ (lv_sub hl [1, 2, 3, 4, 0] rfl)
set_option maxHeartbeats 4000000 in
set_option maxRecDepth 100000 in
theorem bX2_valueIn_6 {p : Program} {l : Launch} {e : Env} {s : State} {m : MethodId} {args : Array Value} {below : List Frame} {meth : Method} {c : Code} {D : va_G} {ca : Nat → ClassId} {ad : Nat → Nat → Nat} {b0 : Nat} {o : Int32 × oa_M} (C : oa_Cx p s m args meth c cX2_valueIn 5 (some .int) RX2 D ca b0 ad) : ∀ (n : Nat), ∀ (n0 : Nat) (hn0 : n0 < oa_n 7) (x1 : Int32) (x2 : Int32) (x3 : Int32) (x4 : Int32) (M : oa_M), BX2_valueIn_6 n n0 x1 x2 x3 x4 M = some o → ∀ (H : Heap) (locs : List Loc), oa_H D ca ad M H → va_S (fun q => b0 ≤ q) s.heap H locs → ∀ (ls : Array Slot), lv_has ls 5 [(0, .ref (ad 7 n0)), (1, .int x1), (2, .int x2), (3, .int x3), (4, .int x4)] → W p l e ({ frames := 4, cells := 0, slots := 0, locals := 80 } : Room) s m args below meth c H locs 0 0 (MQ below (va_Qi (fun (r' : Int32) (u : oa_M) => r' = o.1 ∧ u = o.2) (fun u t => oa_H D ca ad u t.heap) (fun q => b0 ≤ q)) args s 0 0 (fun q => b0 ≤ q)) (F0 m 6 ls []) := by
  obtain ⟨hx, hb, hml, hr, hlocks, hown, hts, hE, hw⟩ := id C
  intro n
  induction n with
  | zero => intro n0 hn0 x1 x2 x3 x4 M hf; cases hf
  | succ n ih =>
    intro n0 hn0 x1 x2 x3 x4 M hf H locs hH hS ls hl
    have hrec6 := ih
    unfold BX2_valueIn_6 at hf
    refine lv_iload hx hb dX2_valueIn_6 (lv_at hl 4 rfl) ?_
    refine lv_if_lt (tgt := 41) hx hb dX2_valueIn_8 (by decide) (fun hq1 => ?_) (fun hq1 => ?_)
    · rw [if_pos hq1] at hf
      refine lv_iload_n hx hb dX2_valueIn_41 rfl (lv_at hl 3 rfl) ?_
      refine lv_aload_n hx hb dX2_valueIn_42 rfl (lv_at hl 0 rfl) ?_
      obtain ⟨r2, M3, hc4, hf⟩ := oa_bdE hf
      refine oa_cvi (As := []) (rest := [.int x3]) ⟨hx, hb, hml, hown, hts⟩ (cX2_highest_ok l D ca ad b0 hw n n0 hn0 _ _ _ hc4) (cwV 0 hts (oa_gV tw_481 tw_482 tw_483 tw_47 tw_484) rfl rfl rfl (by decide +kernel) ⟨Nat.le_of_ble_eq_true rfl, Nat.le_of_ble_eq_true rfl⟩) hE hH hS (oa_recv (k := 7) (ci := 2) hE hH hn0 rfl rfl) rfl hl.1 rfl (Nat.le_of_ble_eq_true rfl) dX2_valueIn_43 ⟨by decide, by decide⟩ (fun H locs hH hS => ?_)
      refine lv_icmp_le (tgt := 58) hx hb dX2_valueIn_46 (by decide) (fun hq5 => ?_) (fun hq5 => ?_)
      · rw [if_pos hq5] at hf
        exact bX2_valueIn_58 C n n0 hn0 x1 x2 x3 x4 _ hf _ _ hH hS _ (lv_sub hl [0, 1, 2, 3, 4] rfl)
      · rw [if_neg hq5] at hf
        refine lv_iload_n hx hb dX2_valueIn_49 rfl (lv_at hl 3 rfl) ?_
        refine lv_iconst (v := (1 : Int32)) hx hb dX2_valueIn_50 (by decide) ?_
        refine lv_aload_n hx hb dX2_valueIn_51 rfl (lv_at hl 0 rfl) ?_
        obtain ⟨r6, M7, hc8, hf⟩ := oa_bdE hf
        refine oa_cvi (As := []) (rest := [.int (1 : Int32), .int x3]) ⟨hx, hb, hml, hown, hts⟩ (cX2_width_ok l D ca ad b0 hw n n0 hn0 _ _ _ hc8) (cwV 0 hts (oa_gV tw_489 tw_297 tw_298 tw_47 tw_299) rfl rfl rfl (by decide +kernel) ⟨Nat.le_of_ble_eq_true rfl, Nat.le_of_ble_eq_true rfl⟩) hE hH hS (oa_recv (k := 7) (ci := 2) hE hH hn0 rfl rfl) rfl hl.1 rfl (Nat.le_of_ble_eq_true rfl) dX2_valueIn_52 ⟨by decide, by decide⟩ (fun H locs hH hS => ?_)
        refine lv_ishl hx hb dX2_valueIn_55 ?_
        refine lv_isub hx hb dX2_valueIn_56 ?_
        refine lv_istore_n (lv' := [(3, .int (x3 - ((1 : Int32) <<< (r6 &&& 31)))), (0, .ref (ad 7 n0)), (1, .int x1), (2, .int x2), (4, .int x4)]) hx hb dX2_valueIn_57 rfl hl (by decide) rfl (fun ls hl => ?_)
        exact bX2_valueIn_58 C n n0 hn0 x1 x2 (x3 - ((1 : Int32) <<< (r6 &&& 31))) x4 _ hf _ _ hH hS _ (lv_sub hl [1, 2, 3, 0, 4] rfl)
    · rw [if_neg hq1] at hf
      refine lv_aload_n hx hb dX2_valueIn_11 rfl (lv_at hl 0 rfl) ?_
      refine oa_get (ci := 2) (C := RX2) (T := TX2) (N := 4) (v := .int (M 7 n0 0)) hx hb hts inX2 hown hE hH 7 n0 hn0 rfl rfl 0 (by decide) (hts _ tw_98) rfl dX2_valueIn_12 ?_
      refine lv_iload hx hb dX2_valueIn_15 (lv_at hl 4 rfl) ?_
      refine lv_ishr hx hb dX2_valueIn_17 ?_
      refine lv_iconst (v := (1 : Int32)) hx hb dX2_valueIn_18 (by decide) ?_
      refine lv_iand hx hb dX2_valueIn_19 ?_
      refine lv_iconst (v := (1 : Int32)) hx hb dX2_valueIn_20 (by decide) ?_
      refine lv_icmp_ne (tgt := 35) hx hb dX2_valueIn_21 (by decide) (fun hq9 => ?_) (fun hq9 => ?_)
      · rw [if_neg hq9] at hf
        exact bX2_valueIn_35 C _ hrec6 n n0 hn0 x1 x2 x3 x4 _ hf _ _ hH hS _ (lv_sub hl [0, 1, 2, 3, 4] rfl)
      · rw [if_pos hq9] at hf
        refine lv_iload_n hx hb dX2_valueIn_24 rfl (lv_at hl 3 rfl) ?_
        refine lv_iconst (v := (1 : Int32)) hx hb dX2_valueIn_25 (by decide) ?_
        refine lv_ishl hx hb dX2_valueIn_26 ?_
        refine lv_iload_n hx hb dX2_valueIn_27 rfl (lv_at hl 1 rfl) ?_
        refine lv_iload hx hb dX2_valueIn_28 (lv_at hl 4 rfl) ?_
        refine lv_ishr hx hb dX2_valueIn_30 ?_
        refine lv_iconst (v := (1 : Int32)) hx hb dX2_valueIn_31 (by decide) ?_
        refine lv_iand hx hb dX2_valueIn_32 ?_
        refine lv_ior hx hb dX2_valueIn_33 ?_
        refine lv_istore_n (lv' := [(3, .int ((x3 <<< ((1 : Int32) &&& 31)) ||| ((x1 >>> (x4 &&& 31)) &&& (1 : Int32)))), (0, .ref (ad 7 n0)), (1, .int x1), (2, .int x2), (4, .int x4)]) hx hb dX2_valueIn_34 rfl hl (by decide) rfl (fun ls hl => ?_)
        exact bX2_valueIn_35 C _ hrec6 n n0 hn0 x1 x2 ((x3 <<< ((1 : Int32) &&& 31)) ||| ((x1 >>> (x4 &&& 31)) &&& (1 : Int32))) x4 _ hf _ _ hH hS _ (lv_sub hl [1, 2, 3, 0, 4] rfl)
set_option maxHeartbeats 4000000 in
set_option maxRecDepth 100000 in
theorem cX2_valueIn_k (l : Launch) (D : va_G) (ca : Nat → ClassId) (ad : Nat → Nat → Nat) (b0 : Nat) (hw : oa_W ad b0) (n : Nat) (n0 : Nat) (hn0 : n0 < oa_n 7) (x1 : Int32) (x2 : Int32) (M : oa_M) (o : Int32 × oa_M) (hf : FX2_valueIn n n0 x1 x2 M = some o) : oa_Mi l yX2_valueIn (oa_w yX2_valueIn cX2_valueIn 5 (some .int)) ({ frames := 4, cells := 0, slots := 0, locals := 80 } : Room) D ca ad b0 [.ref (ad 7 n0), .int x1, .int x2] M o.1 o.2 := by
  refine oa_ofW (cc := cX2_valueIn) (maxL := 5) (ret := some .int) (by decide) rfl (Nat.le_of_ble_eq_true rfl) ?_
  intro p e s m below meth c hx hb hml hr hlocks hown hts0 hP ls hl
  obtain ⟨hH, hE⟩ := hP
  have hts : ∀ w ∈ oa_T, w.before _ s = true := fun w h => hts0 w (List.mem_cons_of_mem _ h)
  have hS : va_S (fun q => b0 ≤ q) s.heap s.heap [] := va_S.rf
  have C : oa_Cx p s m _ meth c cX2_valueIn 5 (some .int) RX2 D ca b0 ad := ⟨hx, hb, hml, hr, hlocks, hown, hts, hE, hw⟩
  have hl : lv_has ls 5 [(0, .ref (ad 7 n0)), (1, .int x1), (2, .int x2)] := hl
  unfold FX2_valueIn at hf
  refine lv_iconst (v := (0 : Int32)) hx hb dX2_valueIn_0 (by decide) ?_
  refine lv_istore_n (lv' := [(3, .int (0 : Int32)), (0, .ref (ad 7 n0)), (1, .int x1), (2, .int x2)]) hx hb dX2_valueIn_1 rfl hl (by decide) rfl (fun ls hl => ?_)
  refine lv_bipush (v := (23 : Int32)) hx hb dX2_valueIn_2 (by decide) ?_
  refine lv_istore (lv' := [(4, .int (23 : Int32)), (3, .int (0 : Int32)), (0, .ref (ad 7 n0)), (1, .int x1), (2, .int x2)]) hx hb dX2_valueIn_4 hl (by decide) rfl (fun ls hl => ?_)
  exact bX2_valueIn_6 C n n0 hn0 x1 x2 (0 : Int32) (23 : Int32) _ hf _ _ hH hS _ (lv_sub hl [2, 3, 4, 1, 0] rfl)
theorem cX2_valueIn_ok (l : Launch) (D : va_G) (ca : Nat → ClassId) (ad : Nat → Nat → Nat) (b0 : Nat) (hw : oa_W ad b0) (n : Nat) (n0 : Nat) (hn0 : n0 < oa_n 7) (x1 : Int32) (x2 : Int32) (M : oa_M) (r : Int32) (M' : oa_M) (hf : FX2_valueIn n n0 x1 x2 M = some (r, M')) : oa_Mi l yX2_valueIn (oa_w yX2_valueIn cX2_valueIn 5 (some .int)) ({ frames := 4, cells := 0, slots := 0, locals := 80 } : Room) D ca ad b0 [.ref (ad 7 n0), .int x1, .int x2] M r M' := cX2_valueIn_k l D ca ad b0 hw n n0 hn0 x1 x2 M (r, M') hf
def BX2_reaches_58 (n : Nat) (n0 : Nat) (x1 : Int32) (x2 : Int32) (x3 : Int32) (x4 : Int32) (z0 : Int32) (M : oa_M) : Option (Int32 × oa_M) := (some (oa_nz z0, M))
def BX2_reaches_57 (n : Nat) (n0 : Nat) (x1 : Int32) (x2 : Int32) (x3 : Int32) (x4 : Int32) (M : oa_M) : Option (Int32 × oa_M) := (BX2_reaches_58 n n0 x1 x2 x3 x4 (0 : Int32) M)
def BX2_reaches_25 (n : Nat) (n0 : Nat) (x1 : Int32) (x2 : Int32) (x3 : Int32) (M : oa_M) : Option (Int32 × oa_M) := (some ((0 : Int32), M))
def FX2_reaches (n : Nat) (n0 : Nat) (x1 : Int32) (x2 : Int32) (M : oa_M) : Option (Int32 × oa_M) := (oa_bd (FX2_base n n0 x2 M) (fun r1 M2 => (if (M2 7 n0 2) < (1 : Int32) then (BX2_reaches_25 n n0 x1 x2 (x1 - r1) M2) else (if ¬ (M2 7 n0 2) = 0 then (if (oa_rem (x1 - r1) (M2 7 n0 2)) = 0 then (if ¬ (M2 7 n0 2) = 0 then (oa_bd (FX2_lowest n n0 M2) (fun r8 M9 => (if ((x1 - r1) / (M2 7 n0 2)) < r8 then (BX2_reaches_57 n n0 x1 x2 (x1 - r1) ((x1 - r1) / (M2 7 n0 2)) M9) else (oa_bd (FX2_highest n n0 M9) (fun r12 M13 => (if r12 < ((x1 - r1) / (M2 7 n0 2)) then (BX2_reaches_57 n n0 x1 x2 (x1 - r1) ((x1 - r1) / (M2 7 n0 2)) M13) else (BX2_reaches_58 n n0 x1 x2 (x1 - r1) ((x1 - r1) / (M2 7 n0 2)) (1 : Int32) M13))))))) else none) else (BX2_reaches_25 n n0 x1 x2 (x1 - r1) M2)) else none))))
set_option maxHeartbeats 4000000 in
set_option maxRecDepth 100000 in
theorem bX2_reaches_58 {p : Program} {l : Launch} {e : Env} {s : State} {m : MethodId} {args : Array Value} {below : List Frame} {meth : Method} {c : Code} {D : va_G} {ca : Nat → ClassId} {ad : Nat → Nat → Nat} {b0 : Nat} {o : Int32 × oa_M} (C : oa_Cx p s m args meth c cX2_reaches 5 (some .boolean) RX2 D ca b0 ad) : ∀ (n : Nat), ∀ (n0 : Nat) (hn0 : n0 < oa_n 7) (x1 : Int32) (x2 : Int32) (x3 : Int32) (x4 : Int32) (z0 : Int32) (M : oa_M), BX2_reaches_58 n n0 x1 x2 x3 x4 z0 M = some o → ∀ (H : Heap) (locs : List Loc), oa_H D ca ad M H → va_S (fun q => b0 ≤ q) s.heap H locs → ∀ (ls : Array Slot), lv_has ls 5 [(0, .ref (ad 7 n0)), (1, .int x1), (2, .int x2), (3, .int x3), (4, .int x4)] → W p l e ({ frames := 4, cells := 0, slots := 0, locals := 80 } : Room) s m args below meth c H locs 0 0 (MQ below (va_Qi (fun (r' : Int32) (u : oa_M) => r' = o.1 ∧ u = o.2) (fun u t => oa_H D ca ad u t.heap) (fun q => b0 ≤ q)) args s 0 0 (fun q => b0 ≤ q)) (F0 m 58 ls [.int z0]) := by
  obtain ⟨hx, hb, hml, hr, hlocks, hown, hts, hE, hw⟩ := id C
  intro n n0 hn0 x1 x2 x3 x4 z0 M hf H locs hH hS ls hl
  unfold BX2_reaches_58 at hf
  cases hf
  exact oa_reti hx hb hr hlocks rfl hS hH dX2_reaches_58
set_option maxHeartbeats 4000000 in
set_option maxRecDepth 100000 in
theorem bX2_reaches_57 {p : Program} {l : Launch} {e : Env} {s : State} {m : MethodId} {args : Array Value} {below : List Frame} {meth : Method} {c : Code} {D : va_G} {ca : Nat → ClassId} {ad : Nat → Nat → Nat} {b0 : Nat} {o : Int32 × oa_M} (C : oa_Cx p s m args meth c cX2_reaches 5 (some .boolean) RX2 D ca b0 ad) : ∀ (n : Nat), ∀ (n0 : Nat) (hn0 : n0 < oa_n 7) (x1 : Int32) (x2 : Int32) (x3 : Int32) (x4 : Int32) (M : oa_M), BX2_reaches_57 n n0 x1 x2 x3 x4 M = some o → ∀ (H : Heap) (locs : List Loc), oa_H D ca ad M H → va_S (fun q => b0 ≤ q) s.heap H locs → ∀ (ls : Array Slot), lv_has ls 5 [(0, .ref (ad 7 n0)), (1, .int x1), (2, .int x2), (3, .int x3), (4, .int x4)] → W p l e ({ frames := 4, cells := 0, slots := 0, locals := 80 } : Room) s m args below meth c H locs 0 0 (MQ below (va_Qi (fun (r' : Int32) (u : oa_M) => r' = o.1 ∧ u = o.2) (fun u t => oa_H D ca ad u t.heap) (fun q => b0 ≤ q)) args s 0 0 (fun q => b0 ≤ q)) (F0 m 57 ls []) := by
  obtain ⟨hx, hb, hml, hr, hlocks, hown, hts, hE, hw⟩ := id C
  intro n n0 hn0 x1 x2 x3 x4 M hf H locs hH hS ls hl
  unfold BX2_reaches_57 at hf
  refine lv_iconst (v := (0 : Int32)) hx hb dX2_reaches_57 (by decide) ?_
  exact bX2_reaches_58 C n n0 hn0 x1 x2 x3 x4 (0 : Int32) _ hf _ _ hH hS _ (lv_sub hl [0, 1, 2, 3, 4] rfl)
set_option maxHeartbeats 4000000 in
set_option maxRecDepth 100000 in
theorem bX2_reaches_25 {p : Program} {l : Launch} {e : Env} {s : State} {m : MethodId} {args : Array Value} {below : List Frame} {meth : Method} {c : Code} {D : va_G} {ca : Nat → ClassId} {ad : Nat → Nat → Nat} {b0 : Nat} {o : Int32 × oa_M} (C : oa_Cx p s m args meth c cX2_reaches 5 (some .boolean) RX2 D ca b0 ad) : ∀ (n : Nat), ∀ (n0 : Nat) (hn0 : n0 < oa_n 7) (x1 : Int32) (x2 : Int32) (x3 : Int32) (M : oa_M), BX2_reaches_25 n n0 x1 x2 x3 M = some o → ∀ (H : Heap) (locs : List Loc), oa_H D ca ad M H → va_S (fun q => b0 ≤ q) s.heap H locs → ∀ (ls : Array Slot), lv_has ls 5 [(0, .ref (ad 7 n0)), (1, .int x1), (2, .int x2), (3, .int x3)] → W p l e ({ frames := 4, cells := 0, slots := 0, locals := 80 } : Room) s m args below meth c H locs 0 0 (MQ below (va_Qi (fun (r' : Int32) (u : oa_M) => r' = o.1 ∧ u = o.2) (fun u t => oa_H D ca ad u t.heap) (fun q => b0 ≤ q)) args s 0 0 (fun q => b0 ≤ q)) (F0 m 25 ls []) := by
  obtain ⟨hx, hb, hml, hr, hlocks, hown, hts, hE, hw⟩ := id C
  intro n n0 hn0 x1 x2 x3 M hf H locs hH hS ls hl
  unfold BX2_reaches_25 at hf
  refine lv_iconst (v := (0 : Int32)) hx hb dX2_reaches_25 (by decide) ?_
  cases hf
  exact oa_reti hx hb hr hlocks rfl hS hH dX2_reaches_26
set_option maxHeartbeats 4000000 in
set_option maxRecDepth 100000 in
theorem cX2_reaches_k (l : Launch) (D : va_G) (ca : Nat → ClassId) (ad : Nat → Nat → Nat) (b0 : Nat) (hw : oa_W ad b0) (n : Nat) (n0 : Nat) (hn0 : n0 < oa_n 7) (x1 : Int32) (x2 : Int32) (M : oa_M) (o : Int32 × oa_M) (hf : FX2_reaches n n0 x1 x2 M = some o) : oa_Mi l yX2_reaches (oa_w yX2_reaches cX2_reaches 5 (some .boolean)) ({ frames := 4, cells := 0, slots := 0, locals := 80 } : Room) D ca ad b0 [.ref (ad 7 n0), .int x1, .int x2] M o.1 o.2 := by
  refine oa_ofW (cc := cX2_reaches) (maxL := 5) (ret := some .boolean) (by decide) rfl (Nat.le_of_ble_eq_true rfl) ?_
  intro p e s m below meth c hx hb hml hr hlocks hown hts0 hP ls hl
  obtain ⟨hH, hE⟩ := hP
  have hts : ∀ w ∈ oa_T, w.before _ s = true := fun w h => hts0 w (List.mem_cons_of_mem _ h)
  have hS : va_S (fun q => b0 ≤ q) s.heap s.heap [] := va_S.rf
  have C : oa_Cx p s m _ meth c cX2_reaches 5 (some .boolean) RX2 D ca b0 ad := ⟨hx, hb, hml, hr, hlocks, hown, hts, hE, hw⟩
  have hl : lv_has ls 5 [(0, .ref (ad 7 n0)), (1, .int x1), (2, .int x2)] := hl
  unfold FX2_reaches at hf
  refine lv_iload_n hx hb dX2_reaches_0 rfl (lv_at hl 1 rfl) ?_
  refine lv_aload_n hx hb dX2_reaches_1 rfl (lv_at hl 0 rfl) ?_
  refine lv_iload_n hx hb dX2_reaches_2 rfl (lv_at hl 2 rfl) ?_
  obtain ⟨r1, M2, hc3, hf⟩ := oa_bdE hf
  refine oa_cvi (As := [.int x2]) (rest := [.int x1]) ⟨hx, hb, hml, hown, hts⟩ (cX2_base_ok l D ca ad b0 hw n n0 hn0 x2 _ _ _ hc3) (cwV 1 hts (oa_gV tw_490 tw_491 tw_492 tw_47 tw_493) rfl rfl rfl (by decide +kernel) ⟨Nat.le_of_ble_eq_true rfl, Nat.le_of_ble_eq_true rfl⟩) hE hH hS (oa_recv (k := 7) (ci := 2) hE hH hn0 rfl rfl) rfl hl.1 rfl (Nat.le_of_ble_eq_true rfl) dX2_reaches_3 ⟨by decide, by decide⟩ (fun H locs hH hS => ?_)
  refine lv_isub hx hb dX2_reaches_6 ?_
  refine lv_istore_n (lv' := [(3, .int (x1 - r1)), (0, .ref (ad 7 n0)), (1, .int x1), (2, .int x2)]) hx hb dX2_reaches_7 rfl hl (by decide) rfl (fun ls hl => ?_)
  refine lv_aload_n hx hb dX2_reaches_8 rfl (lv_at hl 1 rfl) ?_
  refine oa_get (ci := 2) (C := RX2) (T := TX2) (N := 4) (v := .int (M2 7 n0 2)) hx hb hts inX2 hown hE hH 7 n0 hn0 rfl rfl 2 (by decide) (hts _ tw_102) rfl dX2_reaches_9 ?_
  refine lv_iconst (v := (1 : Int32)) hx hb dX2_reaches_12 (by decide) ?_
  refine lv_icmp_lt (tgt := 25) hx hb dX2_reaches_13 (by decide) (fun hq4 => ?_) (fun hq4 => ?_)
  · rw [if_pos hq4] at hf
    exact bX2_reaches_25 C n n0 hn0 x1 x2 (x1 - r1) _ hf _ _ hH hS _ (lv_sub hl [1, 2, 3, 0] rfl)
  · rw [if_neg hq4] at hf
    refine lv_iload_n hx hb dX2_reaches_16 rfl (lv_at hl 0 rfl) ?_
    refine lv_aload_n hx hb dX2_reaches_17 rfl (lv_at hl 1 rfl) ?_
    refine oa_get (ci := 2) (C := RX2) (T := TX2) (N := 4) (v := .int (M2 7 n0 2)) hx hb hts inX2 hown hE hH 7 n0 hn0 rfl rfl 2 (by decide) (hts _ tw_102) rfl dX2_reaches_18 ?_
    obtain ⟨hk5, hf⟩ := oa_ck hf
    refine lv_irem hx hb dX2_reaches_21 hk5 ?_
    refine lv_if_eq (tgt := 27) hx hb dX2_reaches_22 (by decide) (fun hq6 => ?_) (fun hq6 => ?_)
    · rw [if_pos hq6] at hf
      refine lv_iload_n hx hb dX2_reaches_27 rfl (lv_at hl 0 rfl) ?_
      refine lv_aload_n hx hb dX2_reaches_28 rfl (lv_at hl 1 rfl) ?_
      refine oa_get (ci := 2) (C := RX2) (T := TX2) (N := 4) (v := .int (M2 7 n0 2)) hx hb hts inX2 hown hE hH 7 n0 hn0 rfl rfl 2 (by decide) (hts _ tw_102) rfl dX2_reaches_29 ?_
      obtain ⟨hk7, hf⟩ := oa_ck hf
      refine lv_idiv hx hb dX2_reaches_32 hk7 ?_
      refine lv_istore (lv' := [(4, .int ((x1 - r1) / (M2 7 n0 2))), (3, .int (x1 - r1)), (0, .ref (ad 7 n0)), (1, .int x1), (2, .int x2)]) hx hb dX2_reaches_33 hl (by decide) rfl (fun ls hl => ?_)
      refine lv_iload hx hb dX2_reaches_35 (lv_at hl 0 rfl) ?_
      refine lv_aload_n hx hb dX2_reaches_37 rfl (lv_at hl 2 rfl) ?_
      obtain ⟨r8, M9, hc10, hf⟩ := oa_bdE hf
      refine oa_cvi (As := []) (rest := [.int ((x1 - r1) / (M2 7 n0 2))]) ⟨hx, hb, hml, hown, hts⟩ (cX2_lowest_ok l D ca ad b0 hw n n0 hn0 _ _ _ hc10) (cwV 0 hts (oa_gV tw_485 tw_486 tw_487 tw_47 tw_488) rfl rfl rfl (by decide +kernel) ⟨Nat.le_of_ble_eq_true rfl, Nat.le_of_ble_eq_true rfl⟩) hE hH hS (oa_recv (k := 7) (ci := 2) hE hH hn0 rfl rfl) rfl hl.1 rfl (Nat.le_of_ble_eq_true rfl) dX2_reaches_38 ⟨by decide, by decide⟩ (fun H locs hH hS => ?_)
      refine lv_icmp_lt (tgt := 57) hx hb dX2_reaches_41 (by decide) (fun hq11 => ?_) (fun hq11 => ?_)
      · rw [if_pos hq11] at hf
        exact bX2_reaches_57 C n n0 hn0 x1 x2 (x1 - r1) ((x1 - r1) / (M2 7 n0 2)) _ hf _ _ hH hS _ (lv_sub hl [2, 3, 4, 1, 0] rfl)
      · rw [if_neg hq11] at hf
        refine lv_iload hx hb dX2_reaches_44 (lv_at hl 0 rfl) ?_
        refine lv_aload_n hx hb dX2_reaches_46 rfl (lv_at hl 2 rfl) ?_
        obtain ⟨r12, M13, hc14, hf⟩ := oa_bdE hf
        refine oa_cvi (As := []) (rest := [.int ((x1 - r1) / (M2 7 n0 2))]) ⟨hx, hb, hml, hown, hts⟩ (cX2_highest_ok l D ca ad b0 hw n n0 hn0 _ _ _ hc14) (cwV 0 hts (oa_gV tw_481 tw_482 tw_483 tw_47 tw_484) rfl rfl rfl (by decide +kernel) ⟨Nat.le_of_ble_eq_true rfl, Nat.le_of_ble_eq_true rfl⟩) hE hH hS (oa_recv (k := 7) (ci := 2) hE hH hn0 rfl rfl) rfl hl.1 rfl (Nat.le_of_ble_eq_true rfl) dX2_reaches_47 ⟨by decide, by decide⟩ (fun H locs hH hS => ?_)
        refine lv_icmp_gt (tgt := 57) hx hb dX2_reaches_50 (by decide) (fun hq15 => ?_) (fun hq15 => ?_)
        · rw [if_pos hq15] at hf
          exact bX2_reaches_57 C n n0 hn0 x1 x2 (x1 - r1) ((x1 - r1) / (M2 7 n0 2)) _ hf _ _ hH hS _ (lv_sub hl [2, 3, 4, 1, 0] rfl)
        · rw [if_neg hq15] at hf
          refine lv_iconst (v := (1 : Int32)) hx hb dX2_reaches_53 (by decide) ?_
          refine lv_goto (tgt := 58) hx hb dX2_reaches_54 (by decide) ?_
          exact bX2_reaches_58 C n n0 hn0 x1 x2 (x1 - r1) ((x1 - r1) / (M2 7 n0 2)) (1 : Int32) _ hf _ _ hH hS _ (lv_sub hl [2, 3, 4, 1, 0] rfl)
    · rw [if_neg hq6] at hf
      exact bX2_reaches_25 C n n0 hn0 x1 x2 (x1 - r1) _ hf _ _ hH hS _ (lv_sub hl [1, 2, 3, 0] rfl)
theorem cX2_reaches_ok (l : Launch) (D : va_G) (ca : Nat → ClassId) (ad : Nat → Nat → Nat) (b0 : Nat) (hw : oa_W ad b0) (n : Nat) (n0 : Nat) (hn0 : n0 < oa_n 7) (x1 : Int32) (x2 : Int32) (M : oa_M) (r : Int32) (M' : oa_M) (hf : FX2_reaches n n0 x1 x2 M = some (r, M')) : oa_Mi l yX2_reaches (oa_w yX2_reaches cX2_reaches 5 (some .boolean)) ({ frames := 4, cells := 0, slots := 0, locals := 80 } : Room) D ca ad b0 [.ref (ad 7 n0), .int x1, .int x2] M r M' := cX2_reaches_k l D ca ad b0 hw n n0 hn0 x1 x2 M (r, M') hf
def BX2_bitsFor_66 (rec31 : Nat → Int32 → Int32 → Int32 → Int32 → Int32 → oa_M → Option (Int32 × oa_M)) (n : Nat) (n0 : Nat) (x1 : Int32) (x2 : Int32) (x3 : Int32) (x4 : Int32) (x5 : Int32) (M : oa_M) : Option (Int32 × oa_M) := (rec31 n0 x1 x2 x3 x4 (x5 + (1 : Int32)) M)
def BX2_bitsFor_31 : Nat → Nat → Int32 → Int32 → Int32 → Int32 → Int32 → oa_M → Option (Int32 × oa_M)
  | 0, _, _, _, _, _, _, _ => none
  | n + 1, n0, x1, x2, x3, x4, x5, M => (if (24 : Int32) ≤ x5 then (some (x4, M)) else (if (((M 7 n0 0) >>> (x5 &&& 31)) &&& (1 : Int32)) = (1 : Int32) then (BX2_bitsFor_66 (BX2_bitsFor_31 n) n n0 x1 x2 (x3 >>> ((1 : Int32) &&& 31)) (x4 ||| ((x3 &&& (1 : Int32)) <<< (x5 &&& 31))) x5 M) else (BX2_bitsFor_66 (BX2_bitsFor_31 n) n n0 x1 x2 x3 x4 x5 M)))
def BX2_bitsFor_24 (n : Nat) (n0 : Nat) (x1 : Int32) (x2 : Int32) (z0 : Int32) (M : oa_M) : Option (Int32 × oa_M) := (BX2_bitsFor_31 n n0 x1 x2 z0 (0 : Int32) (0 : Int32) M)
def FX2_bitsFor (n : Nat) (n0 : Nat) (x1 : Int32) (x2 : Int32) (M : oa_M) : Option (Int32 × oa_M) := (if (1 : Int32) ≤ (M 7 n0 2) then (oa_bd (FX2_base n n0 x2 M) (fun r2 M3 => (if ¬ (M3 7 n0 2) = 0 then (BX2_bitsFor_24 n n0 x1 x2 ((x1 - r2) / (M3 7 n0 2)) M3) else none))) else (BX2_bitsFor_24 n n0 x1 x2 (0 : Int32) M))
set_option maxHeartbeats 4000000 in
set_option maxRecDepth 100000 in
theorem bX2_bitsFor_66 {p : Program} {l : Launch} {e : Env} {s : State} {m : MethodId} {args : Array Value} {below : List Frame} {meth : Method} {c : Code} {D : va_G} {ca : Nat → ClassId} {ad : Nat → Nat → Nat} {b0 : Nat} {o : Int32 × oa_M} (C : oa_Cx p s m args meth c cX2_bitsFor 6 (some .int) RX2 D ca b0 ad) (rec31 : Nat → Int32 → Int32 → Int32 → Int32 → Int32 → oa_M → Option (Int32 × oa_M)) (hrec31 : ∀ (n0 : Nat) (hn0 : n0 < oa_n 7) (x1 : Int32) (x2 : Int32) (x3 : Int32) (x4 : Int32) (x5 : Int32) (M : oa_M), rec31 n0 x1 x2 x3 x4 x5 M = some o → ∀ (H : Heap) (locs : List Loc), oa_H D ca ad M H → va_S (fun q => b0 ≤ q) s.heap H locs → ∀ (ls : Array Slot), lv_has ls 6 [(0, .ref (ad 7 n0)), (1, .int x1), (2, .int x2), (3, .int x3), (4, .int x4), (5, .int x5)] → W p l e ({ frames := 1, cells := 0, slots := 0, locals := 21 } : Room) s m args below meth c H locs 0 0 (MQ below (va_Qi (fun (r' : Int32) (u : oa_M) => r' = o.1 ∧ u = o.2) (fun u t => oa_H D ca ad u t.heap) (fun q => b0 ≤ q)) args s 0 0 (fun q => b0 ≤ q)) (F0 m 31 ls [])) : ∀ (n : Nat), ∀ (n0 : Nat) (hn0 : n0 < oa_n 7) (x1 : Int32) (x2 : Int32) (x3 : Int32) (x4 : Int32) (x5 : Int32) (M : oa_M), BX2_bitsFor_66 rec31 n n0 x1 x2 x3 x4 x5 M = some o → ∀ (H : Heap) (locs : List Loc), oa_H D ca ad M H → va_S (fun q => b0 ≤ q) s.heap H locs → ∀ (ls : Array Slot), lv_has ls 6 [(0, .ref (ad 7 n0)), (1, .int x1), (2, .int x2), (3, .int x3), (4, .int x4), (5, .int x5)] → W p l e ({ frames := 1, cells := 0, slots := 0, locals := 21 } : Room) s m args below meth c H locs 0 0 (MQ below (va_Qi (fun (r' : Int32) (u : oa_M) => r' = o.1 ∧ u = o.2) (fun u t => oa_H D ca ad u t.heap) (fun q => b0 ≤ q)) args s 0 0 (fun q => b0 ≤ q)) (F0 m 66 ls []) := by
  obtain ⟨hx, hb, hml, hr, hlocks, hown, hts, hE, hw⟩ := id C
  intro n n0 hn0 x1 x2 x3 x4 x5 M hf H locs hH hS ls hl
  unfold BX2_bitsFor_66 at hf
  refine lv_iinc (v := (x5 + (1 : Int32))) (lv' := [(5, .int (x5 + (1 : Int32))), (0, .ref (ad 7 n0)), (1, .int x1), (2, .int x2), (3, .int x3), (4, .int x4)]) hx hb dX2_bitsFor_66 hl (k := 5) rfl rfl (by decide) rfl (fun ls hl => ?_)
  refine lv_goto (tgt := 31) hx hb dX2_bitsFor_69 (by decide) ?_
  exact hrec31 n0 hn0 x1 x2 x3 x4 (x5 + (1 : Int32)) _ hf _ _ hH hS _ (lv_sub hl [1, 2, 3, 4, 5, 0] rfl)
set_option maxHeartbeats 4000000 in
set_option maxRecDepth 100000 in
theorem bX2_bitsFor_31 {p : Program} {l : Launch} {e : Env} {s : State} {m : MethodId} {args : Array Value} {below : List Frame} {meth : Method} {c : Code} {D : va_G} {ca : Nat → ClassId} {ad : Nat → Nat → Nat} {b0 : Nat} {o : Int32 × oa_M} (C : oa_Cx p s m args meth c cX2_bitsFor 6 (some .int) RX2 D ca b0 ad) : ∀ (n : Nat), ∀ (n0 : Nat) (hn0 : n0 < oa_n 7) (x1 : Int32) (x2 : Int32) (x3 : Int32) (x4 : Int32) (x5 : Int32) (M : oa_M), BX2_bitsFor_31 n n0 x1 x2 x3 x4 x5 M = some o → ∀ (H : Heap) (locs : List Loc), oa_H D ca ad M H → va_S (fun q => b0 ≤ q) s.heap H locs → ∀ (ls : Array Slot), lv_has ls 6 [(0, .ref (ad 7 n0)), (1, .int x1), (2, .int x2), (3, .int x3), (4, .int x4), (5, .int x5)] → W p l e ({ frames := 1, cells := 0, slots := 0, locals := 21 } : Room) s m args below meth c H locs 0 0 (MQ below (va_Qi (fun (r' : Int32) (u : oa_M) => r' = o.1 ∧ u = o.2) (fun u t => oa_H D ca ad u t.heap) (fun q => b0 ≤ q)) args s 0 0 (fun q => b0 ≤ q)) (F0 m 31 ls []) := by
  obtain ⟨hx, hb, hml, hr, hlocks, hown, hts, hE, hw⟩ := id C
  intro n
  induction n with
  | zero => intro n0 hn0 x1 x2 x3 x4 x5 M hf; cases hf
  | succ n ih =>
    intro n0 hn0 x1 x2 x3 x4 x5 M hf H locs hH hS ls hl
    have hrec31 := ih
    unfold BX2_bitsFor_31 at hf
    refine lv_iload hx hb dX2_bitsFor_31 (lv_at hl 5 rfl) ?_
    refine lv_bipush (v := (24 : Int32)) hx hb dX2_bitsFor_33 (by decide) ?_
    refine lv_icmp_ge (tgt := 72) hx hb dX2_bitsFor_35 (by decide) (fun hq1 => ?_) (fun hq1 => ?_)
    · rw [if_pos hq1] at hf
      refine lv_iload hx hb dX2_bitsFor_72 (lv_at hl 4 rfl) ?_
      cases hf
      exact oa_reti hx hb hr hlocks rfl hS hH dX2_bitsFor_74
    · rw [if_neg hq1] at hf
      refine lv_aload_n hx hb dX2_bitsFor_38 rfl (lv_at hl 0 rfl) ?_
      refine oa_get (ci := 2) (C := RX2) (T := TX2) (N := 4) (v := .int (M 7 n0 0)) hx hb hts inX2 hown hE hH 7 n0 hn0 rfl rfl 0 (by decide) (hts _ tw_98) rfl dX2_bitsFor_39 ?_
      refine lv_iload hx hb dX2_bitsFor_42 (lv_at hl 5 rfl) ?_
      refine lv_ishr hx hb dX2_bitsFor_44 ?_
      refine lv_iconst (v := (1 : Int32)) hx hb dX2_bitsFor_45 (by decide) ?_
      refine lv_iand hx hb dX2_bitsFor_46 ?_
      refine lv_iconst (v := (1 : Int32)) hx hb dX2_bitsFor_47 (by decide) ?_
      refine lv_icmp_ne (tgt := 66) hx hb dX2_bitsFor_48 (by decide) (fun hq2 => ?_) (fun hq2 => ?_)
      · rw [if_neg hq2] at hf
        exact bX2_bitsFor_66 C _ hrec31 n n0 hn0 x1 x2 x3 x4 x5 _ hf _ _ hH hS _ (lv_sub hl [0, 1, 2, 3, 4, 5] rfl)
      · rw [if_pos hq2] at hf
        refine lv_iload hx hb dX2_bitsFor_51 (lv_at hl 4 rfl) ?_
        refine lv_iload_n hx hb dX2_bitsFor_53 rfl (lv_at hl 3 rfl) ?_
        refine lv_iconst (v := (1 : Int32)) hx hb dX2_bitsFor_54 (by decide) ?_
        refine lv_iand hx hb dX2_bitsFor_55 ?_
        refine lv_iload hx hb dX2_bitsFor_56 (lv_at hl 5 rfl) ?_
        refine lv_ishl hx hb dX2_bitsFor_58 ?_
        refine lv_ior hx hb dX2_bitsFor_59 ?_
        refine lv_istore (lv' := [(4, .int (x4 ||| ((x3 &&& (1 : Int32)) <<< (x5 &&& 31)))), (0, .ref (ad 7 n0)), (1, .int x1), (2, .int x2), (3, .int x3), (5, .int x5)]) hx hb dX2_bitsFor_60 hl (by decide) rfl (fun ls hl => ?_)
        refine lv_iload_n hx hb dX2_bitsFor_62 rfl (lv_at hl 4 rfl) ?_
        refine lv_iconst (v := (1 : Int32)) hx hb dX2_bitsFor_63 (by decide) ?_
        refine lv_ishr hx hb dX2_bitsFor_64 ?_
        refine lv_istore_n (lv' := [(3, .int (x3 >>> ((1 : Int32) &&& 31))), (4, .int (x4 ||| ((x3 &&& (1 : Int32)) <<< (x5 &&& 31)))), (0, .ref (ad 7 n0)), (1, .int x1), (2, .int x2), (5, .int x5)]) hx hb dX2_bitsFor_65 rfl hl (by decide) rfl (fun ls hl => ?_)
        exact bX2_bitsFor_66 C _ hrec31 n n0 hn0 x1 x2 (x3 >>> ((1 : Int32) &&& 31)) (x4 ||| ((x3 &&& (1 : Int32)) <<< (x5 &&& 31))) x5 _ hf _ _ hH hS _ (lv_sub hl [2, 3, 4, 0, 1, 5] rfl)
set_option maxHeartbeats 4000000 in
set_option maxRecDepth 100000 in
theorem bX2_bitsFor_24 {p : Program} {l : Launch} {e : Env} {s : State} {m : MethodId} {args : Array Value} {below : List Frame} {meth : Method} {c : Code} {D : va_G} {ca : Nat → ClassId} {ad : Nat → Nat → Nat} {b0 : Nat} {o : Int32 × oa_M} (C : oa_Cx p s m args meth c cX2_bitsFor 6 (some .int) RX2 D ca b0 ad) : ∀ (n : Nat), ∀ (n0 : Nat) (hn0 : n0 < oa_n 7) (x1 : Int32) (x2 : Int32) (z0 : Int32) (M : oa_M), BX2_bitsFor_24 n n0 x1 x2 z0 M = some o → ∀ (H : Heap) (locs : List Loc), oa_H D ca ad M H → va_S (fun q => b0 ≤ q) s.heap H locs → ∀ (ls : Array Slot), lv_has ls 6 [(0, .ref (ad 7 n0)), (1, .int x1), (2, .int x2)] → W p l e ({ frames := 1, cells := 0, slots := 0, locals := 21 } : Room) s m args below meth c H locs 0 0 (MQ below (va_Qi (fun (r' : Int32) (u : oa_M) => r' = o.1 ∧ u = o.2) (fun u t => oa_H D ca ad u t.heap) (fun q => b0 ≤ q)) args s 0 0 (fun q => b0 ≤ q)) (F0 m 24 ls [.int z0]) := by
  obtain ⟨hx, hb, hml, hr, hlocks, hown, hts, hE, hw⟩ := id C
  intro n n0 hn0 x1 x2 z0 M hf H locs hH hS ls hl
  unfold BX2_bitsFor_24 at hf
  refine lv_istore_n (lv' := [(3, .int z0), (0, .ref (ad 7 n0)), (1, .int x1), (2, .int x2)]) hx hb dX2_bitsFor_24 rfl hl (by decide) rfl (fun ls hl => ?_)
  refine lv_iconst (v := (0 : Int32)) hx hb dX2_bitsFor_25 (by decide) ?_
  refine lv_istore (lv' := [(4, .int (0 : Int32)), (3, .int z0), (0, .ref (ad 7 n0)), (1, .int x1), (2, .int x2)]) hx hb dX2_bitsFor_26 hl (by decide) rfl (fun ls hl => ?_)
  refine lv_iconst (v := (0 : Int32)) hx hb dX2_bitsFor_28 (by decide) ?_
  refine lv_istore (lv' := [(5, .int (0 : Int32)), (4, .int (0 : Int32)), (3, .int z0), (0, .ref (ad 7 n0)), (1, .int x1), (2, .int x2)]) hx hb dX2_bitsFor_29 hl (by decide) rfl (fun ls hl => ?_)
  exact bX2_bitsFor_31 C n n0 hn0 x1 x2 z0 (0 : Int32) (0 : Int32) _ hf _ _ hH hS _ (lv_sub hl [3, 4, 5, 2, 1, 0] rfl)
set_option maxHeartbeats 4000000 in
set_option maxRecDepth 100000 in
theorem cX2_bitsFor_k (l : Launch) (D : va_G) (ca : Nat → ClassId) (ad : Nat → Nat → Nat) (b0 : Nat) (hw : oa_W ad b0) (n : Nat) (n0 : Nat) (hn0 : n0 < oa_n 7) (x1 : Int32) (x2 : Int32) (M : oa_M) (o : Int32 × oa_M) (hf : FX2_bitsFor n n0 x1 x2 M = some o) : oa_Mi l yX2_bitsFor (oa_w yX2_bitsFor cX2_bitsFor 6 (some .int)) ({ frames := 1, cells := 0, slots := 0, locals := 21 } : Room) D ca ad b0 [.ref (ad 7 n0), .int x1, .int x2] M o.1 o.2 := by
  refine oa_ofW (cc := cX2_bitsFor) (maxL := 6) (ret := some .int) (by decide) rfl (Nat.le_of_ble_eq_true rfl) ?_
  intro p e s m below meth c hx hb hml hr hlocks hown hts0 hP ls hl
  obtain ⟨hH, hE⟩ := hP
  have hts : ∀ w ∈ oa_T, w.before _ s = true := fun w h => hts0 w (List.mem_cons_of_mem _ h)
  have hS : va_S (fun q => b0 ≤ q) s.heap s.heap [] := va_S.rf
  have C : oa_Cx p s m _ meth c cX2_bitsFor 6 (some .int) RX2 D ca b0 ad := ⟨hx, hb, hml, hr, hlocks, hown, hts, hE, hw⟩
  have hl : lv_has ls 6 [(0, .ref (ad 7 n0)), (1, .int x1), (2, .int x2)] := hl
  unfold FX2_bitsFor at hf
  refine lv_aload_n hx hb dX2_bitsFor_0 rfl (lv_at hl 0 rfl) ?_
  refine oa_get (ci := 2) (C := RX2) (T := TX2) (N := 4) (v := .int (M 7 n0 2)) hx hb hts inX2 hown hE hH 7 n0 hn0 rfl rfl 2 (by decide) (hts _ tw_102) rfl dX2_bitsFor_1 ?_
  refine lv_iconst (v := (1 : Int32)) hx hb dX2_bitsFor_4 (by decide) ?_
  refine lv_icmp_ge (tgt := 12) hx hb dX2_bitsFor_5 (by decide) (fun hq1 => ?_) (fun hq1 => ?_)
  · rw [if_pos hq1] at hf
    refine lv_iload_n hx hb dX2_bitsFor_12 rfl (lv_at hl 1 rfl) ?_
    refine lv_aload_n hx hb dX2_bitsFor_13 rfl (lv_at hl 0 rfl) ?_
    refine lv_iload_n hx hb dX2_bitsFor_14 rfl (lv_at hl 2 rfl) ?_
    obtain ⟨r2, M3, hc4, hf⟩ := oa_bdE hf
    refine oa_cvi (As := [.int x2]) (rest := [.int x1]) ⟨hx, hb, hml, hown, hts⟩ (cX2_base_ok l D ca ad b0 hw n n0 hn0 x2 _ _ _ hc4) (cwV 1 hts (oa_gV tw_490 tw_491 tw_492 tw_47 tw_493) rfl rfl rfl (by decide +kernel) ⟨Nat.le_of_ble_eq_true rfl, Nat.le_of_ble_eq_true rfl⟩) hE hH hS (oa_recv (k := 7) (ci := 2) hE hH hn0 rfl rfl) rfl hl.1 rfl (Nat.le_of_ble_eq_true rfl) dX2_bitsFor_15 ⟨by decide, by decide⟩ (fun H locs hH hS => ?_)
    refine lv_isub hx hb dX2_bitsFor_18 ?_
    refine lv_aload_n hx hb dX2_bitsFor_19 rfl (lv_at hl 0 rfl) ?_
    refine oa_get (ci := 2) (C := RX2) (T := TX2) (N := 4) (v := .int (M3 7 n0 2)) hx hb hts inX2 hown hE hH 7 n0 hn0 rfl rfl 2 (by decide) (hts _ tw_102) rfl dX2_bitsFor_20 ?_
    obtain ⟨hk5, hf⟩ := oa_ck hf
    refine lv_idiv hx hb dX2_bitsFor_23 hk5 ?_
    exact bX2_bitsFor_24 C n n0 hn0 x1 x2 ((x1 - r2) / (M3 7 n0 2)) _ hf _ _ hH hS _ (lv_sub hl [0, 1, 2] rfl)
  · rw [if_neg hq1] at hf
    refine lv_iconst (v := (0 : Int32)) hx hb dX2_bitsFor_8 (by decide) ?_
    refine lv_goto (tgt := 24) hx hb dX2_bitsFor_9 (by decide) ?_
    exact bX2_bitsFor_24 C n n0 hn0 x1 x2 (0 : Int32) _ hf _ _ hH hS _ (lv_sub hl [0, 1, 2] rfl)
theorem cX2_bitsFor_ok (l : Launch) (D : va_G) (ca : Nat → ClassId) (ad : Nat → Nat → Nat) (b0 : Nat) (hw : oa_W ad b0) (n : Nat) (n0 : Nat) (hn0 : n0 < oa_n 7) (x1 : Int32) (x2 : Int32) (M : oa_M) (r : Int32) (M' : oa_M) (hf : FX2_bitsFor n n0 x1 x2 M = some (r, M')) : oa_Mi l yX2_bitsFor (oa_w yX2_bitsFor cX2_bitsFor 6 (some .int)) ({ frames := 1, cells := 0, slots := 0, locals := 21 } : Room) D ca ad b0 [.ref (ad 7 n0), .int x1, .int x2] M r M' := cX2_bitsFor_k l D ca ad b0 hw n n0 hn0 x1 x2 M (r, M') hf
end
section
def BX0_begin_27 : Nat → Nat → Int32 → Int32 → Int32 → oa_M → Option (oa_M)
  | 0, _, _, _, _, _ => none
  | n + 1, n0, x1, x2, x3, M => (if (3 : Int32) ≤ x3 then (some M) else (if oa_in x3 3 = true then (BX0_begin_27 n n0 x1 x2 (x3 + (1 : Int32)) (oa_up M 7 (3 * n0 + x3.toNatClampNeg) 0 (0 : Int32))) else none))
def FX0_begin (n : Nat) (n0 : Nat) (x1 : Int32) (x2 : Int32) (M : oa_M) : Option (oa_M) := (BX0_begin_27 n n0 x1 x2 (0 : Int32) (oa_up (oa_up (oa_up (oa_up (oa_up M 5 n0 1 x1) 5 n0 2 x2) 5 n0 3 (0 : Int32)) 5 n0 4 (0 : Int32)) 5 n0 5 (0 : Int32)))
set_option maxHeartbeats 4000000 in
set_option maxRecDepth 100000 in
theorem bX0_begin_27 {p : Program} {l : Launch} {e : Env} {s : State} {m : MethodId} {args : Array Value} {below : List Frame} {meth : Method} {c : Code} {D : va_G} {ca : Nat → ClassId} {ad : Nat → Nat → Nat} {b0 : Nat} {o : oa_M} (C : oa_Cx p s m args meth c cX0_begin 4 (none) RX0 D ca b0 ad) : ∀ (n : Nat), ∀ (n0 : Nat) (hn0 : n0 < oa_n 5) (x1 : Int32) (x2 : Int32) (x3 : Int32) (M : oa_M), BX0_begin_27 n n0 x1 x2 x3 M = some o → ∀ (H : Heap) (locs : List Loc), oa_H D ca ad M H → va_S (fun q => b0 ≤ q) s.heap H locs → ∀ (ls : Array Slot), lv_has ls 4 [(0, .ref (ad 5 n0)), (1, .int x1), (2, .int x2), (3, .int x3)] → W p l e ({ frames := 0, cells := 0, slots := 0, locals := 0 } : Room) s m args below meth c H locs 0 0 (MQ below (va_Qv (fun (u : oa_M) => u = o) (fun u t => oa_H D ca ad u t.heap) (fun q => b0 ≤ q)) args s 0 0 (fun q => b0 ≤ q)) (F0 m 27 ls []) := by
  obtain ⟨hx, hb, hml, hr, hlocks, hown, hts, hE, hw⟩ := id C
  intro n
  induction n with
  | zero => intro n0 hn0 x1 x2 x3 M hf; cases hf
  | succ n ih =>
    intro n0 hn0 x1 x2 x3 M hf H locs hH hS ls hl
    have hrec27 := ih
    unfold BX0_begin_27 at hf
    refine lv_iload_n hx hb dX0_begin_27 rfl (lv_at hl 3 rfl) ?_
    refine lv_aload_n hx hb dX0_begin_28 rfl (lv_at hl 0 rfl) ?_
    refine oa_get (ci := 0) (C := RX0) (T := TX0) (N := 6) (v := .ref (ad 6 n0)) hx hb hts inX0 hown hE hH 5 n0 hn0 rfl rfl 0 (by decide) (hts _ tw_116) rfl dX0_begin_29 ?_
    refine oa_len (v := (3 : Int32)) hx hb hE hH 6 n0 hn0 5 rfl rfl rfl dX0_begin_32 ?_
    refine lv_icmp_ge (tgt := 52) hx hb dX0_begin_33 (by decide) (fun hq1 => ?_) (fun hq1 => ?_)
    · rw [if_pos hq1] at hf
      cases hf
      exact oa_retv hx hb hr hlocks hS hH dX0_begin_52
    · rw [if_neg hq1] at hf
      refine lv_aload_n hx hb dX0_begin_36 rfl (lv_at hl 0 rfl) ?_
      refine oa_get (ci := 0) (C := RX0) (T := TX0) (N := 6) (v := .ref (ad 6 n0)) hx hb hts inX0 hown hE hH 5 n0 hn0 rfl rfl 0 (by decide) (hts _ tw_116) rfl dX0_begin_37 ?_
      refine lv_iload_n hx hb dX0_begin_40 rfl (lv_at hl 3 rfl) ?_
      obtain ⟨hk2, hf⟩ := oa_ck hf
      refine oa_ald (g := fun j => ad 7 (3 * n0 + j)) hx hb hE hH 6 n0 hn0 3 5 rfl rfl (oa_in_vp hk2) dX0_begin_41 ?_
      refine lv_iconst (v := (0 : Int32)) hx hb dX0_begin_42 (by decide) ?_
      refine oa_put (ci := 2) (C := RX2) (T := TX2) (N := 4) (v := .int (0 : Int32)) (x := (0 : Int32)) hx hb hts inX2 tyX2 tyX2_ok nmX2 hown hE hw hH hS 7 (3 * n0 + x3.toNatClampNeg) (oa_lt7 hn0 (oa_in_vp hk2)) rfl rfl 0 (by decide) (hts _ tw_99) rfl rfl rfl (Nat.le_of_ble_eq_true rfl) rfl dX0_begin_43 (fun H locs hH hS => ?_)
      refine lv_iinc (v := (x3 + (1 : Int32))) (lv' := [(3, .int (x3 + (1 : Int32))), (0, .ref (ad 5 n0)), (1, .int x1), (2, .int x2)]) hx hb dX0_begin_46 hl (k := 3) rfl rfl (by decide) rfl (fun ls hl => ?_)
      refine lv_goto (tgt := 27) hx hb dX0_begin_49 (by decide) ?_
      exact hrec27 n0 hn0 x1 x2 (x3 + (1 : Int32)) _ hf _ _ hH hS _ (lv_sub hl [1, 2, 3, 0] rfl)
set_option maxHeartbeats 4000000 in
set_option maxRecDepth 100000 in
theorem cX0_begin_k (l : Launch) (D : va_G) (ca : Nat → ClassId) (ad : Nat → Nat → Nat) (b0 : Nat) (hw : oa_W ad b0) (n : Nat) (n0 : Nat) (hn0 : n0 < oa_n 5) (x1 : Int32) (x2 : Int32) (M : oa_M) (o : oa_M) (hf : FX0_begin n n0 x1 x2 M = some o) : oa_Mv l yX0_begin (oa_w yX0_begin cX0_begin 4 none) ({ frames := 0, cells := 0, slots := 0, locals := 0 } : Room) D ca ad b0 [.ref (ad 5 n0), .int x1, .int x2] M o := by
  refine oa_ofW (cc := cX0_begin) (maxL := 4) (ret := none) (by decide) rfl (Nat.le_of_ble_eq_true rfl) ?_
  intro p e s m below meth c hx hb hml hr hlocks hown hts0 hP ls hl
  obtain ⟨hH, hE⟩ := hP
  have hts : ∀ w ∈ oa_T, w.before _ s = true := fun w h => hts0 w (List.mem_cons_of_mem _ h)
  have hS : va_S (fun q => b0 ≤ q) s.heap s.heap [] := va_S.rf
  have C : oa_Cx p s m _ meth c cX0_begin 4 (none) RX0 D ca b0 ad := ⟨hx, hb, hml, hr, hlocks, hown, hts, hE, hw⟩
  have hl : lv_has ls 4 [(0, .ref (ad 5 n0)), (1, .int x1), (2, .int x2)] := hl
  unfold FX0_begin at hf
  refine lv_aload_n hx hb dX0_begin_0 rfl (lv_at hl 0 rfl) ?_
  refine lv_iload_n hx hb dX0_begin_1 rfl (lv_at hl 1 rfl) ?_
  refine oa_put (ci := 0) (C := RX0) (T := TX0) (N := 6) (v := .int x1) (x := x1) hx hb hts inX0 tyX0 tyX0_ok nmX0 hown hE hw hH hS 5 n0 hn0 rfl rfl 1 (by decide) (hts _ tw_118) rfl rfl rfl (Nat.le_of_ble_eq_true rfl) rfl dX0_begin_2 (fun H locs hH hS => ?_)
  refine lv_aload_n hx hb dX0_begin_5 rfl (lv_at hl 0 rfl) ?_
  refine lv_iload_n hx hb dX0_begin_6 rfl (lv_at hl 2 rfl) ?_
  refine oa_put (ci := 0) (C := RX0) (T := TX0) (N := 6) (v := .int x2) (x := x2) hx hb hts inX0 tyX0 tyX0_ok nmX0 hown hE hw hH hS 5 n0 hn0 rfl rfl 2 (by decide) (hts _ tw_120) rfl rfl rfl (Nat.le_of_ble_eq_true rfl) rfl dX0_begin_7 (fun H locs hH hS => ?_)
  refine lv_aload_n hx hb dX0_begin_10 rfl (lv_at hl 0 rfl) ?_
  refine lv_iconst (v := (0 : Int32)) hx hb dX0_begin_11 (by decide) ?_
  refine oa_put (ci := 0) (C := RX0) (T := TX0) (N := 6) (v := .int (0 : Int32)) (x := (0 : Int32)) hx hb hts inX0 tyX0 tyX0_ok nmX0 hown hE hw hH hS 5 n0 hn0 rfl rfl 3 (by decide) (hts _ tw_122) rfl rfl rfl (Nat.le_of_ble_eq_true rfl) rfl dX0_begin_12 (fun H locs hH hS => ?_)
  refine lv_aload_n hx hb dX0_begin_15 rfl (lv_at hl 0 rfl) ?_
  refine lv_iconst (v := (0 : Int32)) hx hb dX0_begin_16 (by decide) ?_
  refine oa_put (ci := 0) (C := RX0) (T := TX0) (N := 6) (v := .int (0 : Int32)) (x := (0 : Int32)) hx hb hts inX0 tyX0 tyX0_ok nmX0 hown hE hw hH hS 5 n0 hn0 rfl rfl 4 (by decide) (hts _ tw_123) rfl rfl rfl (Nat.le_of_ble_eq_true rfl) rfl dX0_begin_17 (fun H locs hH hS => ?_)
  refine lv_aload_n hx hb dX0_begin_20 rfl (lv_at hl 0 rfl) ?_
  refine lv_iconst (v := (0 : Int32)) hx hb dX0_begin_21 (by decide) ?_
  refine oa_put (ci := 0) (C := RX0) (T := TX0) (N := 6) (v := .int (0 : Int32)) (x := (0 : Int32)) hx hb hts inX0 tyX0 tyX0_ok nmX0 hown hE hw hH hS 5 n0 hn0 rfl rfl 5 (by decide) (hts _ tw_125) rfl rfl rfl (Nat.le_of_ble_eq_true rfl) rfl dX0_begin_22 (fun H locs hH hS => ?_)
  refine lv_iconst (v := (0 : Int32)) hx hb dX0_begin_25 (by decide) ?_
  refine lv_istore_n (lv' := [(3, .int (0 : Int32)), (0, .ref (ad 5 n0)), (1, .int x1), (2, .int x2)]) hx hb dX0_begin_26 rfl hl (by decide) rfl (fun ls hl => ?_)
  exact bX0_begin_27 C n n0 hn0 x1 x2 (0 : Int32) _ hf _ _ hH hS _ (lv_sub hl [1, 2, 3, 0] rfl)
theorem cX0_begin_ok (l : Launch) (D : va_G) (ca : Nat → ClassId) (ad : Nat → Nat → Nat) (b0 : Nat) (hw : oa_W ad b0) (n : Nat) (n0 : Nat) (hn0 : n0 < oa_n 5) (x1 : Int32) (x2 : Int32) (M : oa_M) (o : oa_M) (hf : FX0_begin n n0 x1 x2 M = some o) : oa_Mv l yX0_begin (oa_w yX0_begin cX0_begin 4 none) ({ frames := 0, cells := 0, slots := 0, locals := 0 } : Room) D ca ad b0 [.ref (ad 5 n0), .int x1, .int x2] M o := cX0_begin_k l D ca ad b0 hw n n0 hn0 x1 x2 M o hf
def BX0_addSign_63 (n : Nat) (n0 : Nat) (x1 : Int32) (x2 : Int32) (x3 : Int32) (M : oa_M) : Option (Int32 × oa_M) := (some ((0 : Int32), M))
def BX0_addSign_45 (n : Nat) (n0 : Nat) (x1 : Int32) (x2 : Int32) (x3 : Int32) (k0 : Nat) (z1 : Int32) (z2 : Int32) (M : oa_M) : Option (Int32 × oa_M) := (some ((1 : Int32), (oa_up M 5 k0 4 (z1 ||| z2))))
def BX0_addSign_19 (n : Nat) (n0 : Nat) (x1 : Int32) (x2 : Int32) (x3 : Int32) (M : oa_M) : Option (Int32 × oa_M) := (if x2 = (49 : Int32) then (BX0_addSign_45 n n0 x1 x2 x3 n0 ((oa_up M 5 n0 3 ((M 5 n0 3) ||| x3)) 5 n0 4) x3 (oa_up M 5 n0 3 ((M 5 n0 3) ||| x3))) else (BX0_addSign_45 n n0 x1 x2 x3 n0 ((oa_up M 5 n0 3 ((M 5 n0 3) ||| x3)) 5 n0 4) (0 : Int32) (oa_up M 5 n0 3 ((M 5 n0 3) ||| x3))))
def FX0_addSign (n : Nat) (n0 : Nat) (x1 : Int32) (x2 : Int32) (M : oa_M) : Option (Int32 × oa_M) := (if x2 = (48 : Int32) then (BX0_addSign_19 n n0 x1 x2 ((1 : Int32) <<< (((23 : Int32) - x1) &&& 31)) M) else (if x2 = (49 : Int32) then (BX0_addSign_19 n n0 x1 x2 ((1 : Int32) <<< (((23 : Int32) - x1) &&& 31)) M) else (if x2 < (120 : Int32) then (BX0_addSign_63 n n0 x1 x2 ((1 : Int32) <<< (((23 : Int32) - x1) &&& 31)) M) else (if x2 ≤ (122 : Int32) then (if oa_in (x2 - (120 : Int32)) 3 = true then (some ((1 : Int32), (oa_up M 7 (3 * n0 + (x2 - (120 : Int32)).toNatClampNeg) 0 ((M 7 (3 * n0 + (x2 - (120 : Int32)).toNatClampNeg) 0) ||| ((1 : Int32) <<< (((23 : Int32) - x1) &&& 31)))))) else none) else (BX0_addSign_63 n n0 x1 x2 ((1 : Int32) <<< (((23 : Int32) - x1) &&& 31)) M)))))
set_option maxHeartbeats 4000000 in
set_option maxRecDepth 100000 in
theorem bX0_addSign_63 {p : Program} {l : Launch} {e : Env} {s : State} {m : MethodId} {args : Array Value} {below : List Frame} {meth : Method} {c : Code} {D : va_G} {ca : Nat → ClassId} {ad : Nat → Nat → Nat} {b0 : Nat} {o : Int32 × oa_M} (C : oa_Cx p s m args meth c cX0_addSign 4 (some .boolean) RX0 D ca b0 ad) : ∀ (n : Nat), ∀ (n0 : Nat) (hn0 : n0 < oa_n 5) (x1 : Int32) (x2 : Int32) (x3 : Int32) (M : oa_M), BX0_addSign_63 n n0 x1 x2 x3 M = some o → ∀ (H : Heap) (locs : List Loc), oa_H D ca ad M H → va_S (fun q => b0 ≤ q) s.heap H locs → ∀ (ls : Array Slot), lv_has ls 4 [(0, .ref (ad 5 n0)), (1, .int x1), (2, .int x2), (3, .int x3)] → W p l e ({ frames := 0, cells := 0, slots := 0, locals := 0 } : Room) s m args below meth c H locs 0 0 (MQ below (va_Qi (fun (r' : Int32) (u : oa_M) => r' = o.1 ∧ u = o.2) (fun u t => oa_H D ca ad u t.heap) (fun q => b0 ≤ q)) args s 0 0 (fun q => b0 ≤ q)) (F0 m 63 ls []) := by
  obtain ⟨hx, hb, hml, hr, hlocks, hown, hts, hE, hw⟩ := id C
  intro n n0 hn0 x1 x2 x3 M hf H locs hH hS ls hl
  unfold BX0_addSign_63 at hf
  refine lv_iconst (v := (0 : Int32)) hx hb dX0_addSign_63 (by decide) ?_
  cases hf
  exact oa_reti hx hb hr hlocks rfl hS hH dX0_addSign_64
set_option maxHeartbeats 4000000 in
set_option maxRecDepth 100000 in
theorem bX0_addSign_45 {p : Program} {l : Launch} {e : Env} {s : State} {m : MethodId} {args : Array Value} {below : List Frame} {meth : Method} {c : Code} {D : va_G} {ca : Nat → ClassId} {ad : Nat → Nat → Nat} {b0 : Nat} {o : Int32 × oa_M} (C : oa_Cx p s m args meth c cX0_addSign 4 (some .boolean) RX0 D ca b0 ad) : ∀ (n : Nat), ∀ (n0 : Nat) (hn0 : n0 < oa_n 5) (x1 : Int32) (x2 : Int32) (x3 : Int32) (k0 : Nat) (hk0 : k0 < oa_n 5) (z1 : Int32) (z2 : Int32) (M : oa_M), BX0_addSign_45 n n0 x1 x2 x3 k0 z1 z2 M = some o → ∀ (H : Heap) (locs : List Loc), oa_H D ca ad M H → va_S (fun q => b0 ≤ q) s.heap H locs → ∀ (ls : Array Slot), lv_has ls 4 [(0, .ref (ad 5 n0)), (1, .int x1), (2, .int x2), (3, .int x3)] → W p l e ({ frames := 0, cells := 0, slots := 0, locals := 0 } : Room) s m args below meth c H locs 0 0 (MQ below (va_Qi (fun (r' : Int32) (u : oa_M) => r' = o.1 ∧ u = o.2) (fun u t => oa_H D ca ad u t.heap) (fun q => b0 ≤ q)) args s 0 0 (fun q => b0 ≤ q)) (F0 m 45 ls [.int z2, .int z1, .ref (ad 5 k0)]) := by
  obtain ⟨hx, hb, hml, hr, hlocks, hown, hts, hE, hw⟩ := id C
  intro n n0 hn0 x1 x2 x3 k0 hk0 z1 z2 M hf H locs hH hS ls hl
  unfold BX0_addSign_45 at hf
  refine lv_ior hx hb dX0_addSign_45 ?_
  refine oa_put (ci := 0) (C := RX0) (T := TX0) (N := 6) (v := .int (z1 ||| z2)) (x := (z1 ||| z2)) hx hb hts inX0 tyX0 tyX0_ok nmX0 hown hE hw hH hS 5 k0 hk0 rfl rfl 4 (by decide) (hts _ tw_123) rfl rfl rfl (Nat.le_of_ble_eq_true rfl) rfl dX0_addSign_46 (fun H locs hH hS => ?_)
  refine lv_iconst (v := (1 : Int32)) hx hb dX0_addSign_49 (by decide) ?_
  cases hf
  exact oa_reti hx hb hr hlocks rfl hS hH dX0_addSign_50
set_option maxHeartbeats 4000000 in
set_option maxRecDepth 100000 in
theorem bX0_addSign_19 {p : Program} {l : Launch} {e : Env} {s : State} {m : MethodId} {args : Array Value} {below : List Frame} {meth : Method} {c : Code} {D : va_G} {ca : Nat → ClassId} {ad : Nat → Nat → Nat} {b0 : Nat} {o : Int32 × oa_M} (C : oa_Cx p s m args meth c cX0_addSign 4 (some .boolean) RX0 D ca b0 ad) : ∀ (n : Nat), ∀ (n0 : Nat) (hn0 : n0 < oa_n 5) (x1 : Int32) (x2 : Int32) (x3 : Int32) (M : oa_M), BX0_addSign_19 n n0 x1 x2 x3 M = some o → ∀ (H : Heap) (locs : List Loc), oa_H D ca ad M H → va_S (fun q => b0 ≤ q) s.heap H locs → ∀ (ls : Array Slot), lv_has ls 4 [(0, .ref (ad 5 n0)), (1, .int x1), (2, .int x2), (3, .int x3)] → W p l e ({ frames := 0, cells := 0, slots := 0, locals := 0 } : Room) s m args below meth c H locs 0 0 (MQ below (va_Qi (fun (r' : Int32) (u : oa_M) => r' = o.1 ∧ u = o.2) (fun u t => oa_H D ca ad u t.heap) (fun q => b0 ≤ q)) args s 0 0 (fun q => b0 ≤ q)) (F0 m 19 ls []) := by
  obtain ⟨hx, hb, hml, hr, hlocks, hown, hts, hE, hw⟩ := id C
  intro n n0 hn0 x1 x2 x3 M hf H locs hH hS ls hl
  unfold BX0_addSign_19 at hf
  refine lv_aload_n hx hb dX0_addSign_19 rfl (lv_at hl 0 rfl) ?_
  refine lv_dup hx hb dX0_addSign_20 rfl ?_
  refine oa_get (ci := 0) (C := RX0) (T := TX0) (N := 6) (v := .int (M 5 n0 3)) hx hb hts inX0 hown hE hH 5 n0 hn0 rfl rfl 3 (by decide) (hts _ tw_122) rfl dX0_addSign_21 ?_
  refine lv_iload_n hx hb dX0_addSign_24 rfl (lv_at hl 3 rfl) ?_
  refine lv_ior hx hb dX0_addSign_25 ?_
  refine oa_put (ci := 0) (C := RX0) (T := TX0) (N := 6) (v := .int ((M 5 n0 3) ||| x3)) (x := ((M 5 n0 3) ||| x3)) hx hb hts inX0 tyX0 tyX0_ok nmX0 hown hE hw hH hS 5 n0 hn0 rfl rfl 3 (by decide) (hts _ tw_122) rfl rfl rfl (Nat.le_of_ble_eq_true rfl) rfl dX0_addSign_26 (fun H locs hH hS => ?_)
  refine lv_aload_n hx hb dX0_addSign_29 rfl (lv_at hl 0 rfl) ?_
  refine lv_dup hx hb dX0_addSign_30 rfl ?_
  refine oa_get (ci := 0) (C := RX0) (T := TX0) (N := 6) (v := .int ((oa_up M 5 n0 3 ((M 5 n0 3) ||| x3)) 5 n0 4)) hx hb hts inX0 hown hE hH 5 n0 hn0 rfl rfl 4 (by decide) (hts _ tw_123) rfl dX0_addSign_31 ?_
  refine lv_iload_n hx hb dX0_addSign_34 rfl (lv_at hl 2 rfl) ?_
  refine lv_bipush (v := (49 : Int32)) hx hb dX0_addSign_35 (by decide) ?_
  refine lv_icmp_ne (tgt := 44) hx hb dX0_addSign_37 (by decide) (fun hq1 => ?_) (fun hq1 => ?_)
  · rw [if_neg hq1] at hf
    refine lv_iconst (v := (0 : Int32)) hx hb dX0_addSign_44 (by decide) ?_
    exact bX0_addSign_45 C n n0 hn0 x1 x2 x3 n0 hn0 ((oa_up M 5 n0 3 ((M 5 n0 3) ||| x3)) 5 n0 4) (0 : Int32) _ hf _ _ hH hS _ (lv_sub hl [0, 1, 2, 3] rfl)
  · rw [if_pos hq1] at hf
    refine lv_iload_n hx hb dX0_addSign_40 rfl (lv_at hl 3 rfl) ?_
    refine lv_goto (tgt := 45) hx hb dX0_addSign_41 (by decide) ?_
    exact bX0_addSign_45 C n n0 hn0 x1 x2 x3 n0 hn0 ((oa_up M 5 n0 3 ((M 5 n0 3) ||| x3)) 5 n0 4) x3 _ hf _ _ hH hS _ (lv_sub hl [0, 1, 2, 3] rfl)
set_option maxHeartbeats 4000000 in
set_option maxRecDepth 100000 in
theorem cX0_addSign_k (l : Launch) (D : va_G) (ca : Nat → ClassId) (ad : Nat → Nat → Nat) (b0 : Nat) (hw : oa_W ad b0) (n : Nat) (n0 : Nat) (hn0 : n0 < oa_n 5) (x1 : Int32) (x2 : Int32) (M : oa_M) (o : Int32 × oa_M) (hf : FX0_addSign n n0 x1 x2 M = some o) : oa_Mi l yX0_addSign (oa_w yX0_addSign cX0_addSign 4 (some .boolean)) ({ frames := 0, cells := 0, slots := 0, locals := 0 } : Room) D ca ad b0 [.ref (ad 5 n0), .int x1, .int x2] M o.1 o.2 := by
  refine oa_ofW (cc := cX0_addSign) (maxL := 4) (ret := some .boolean) (by decide) rfl (Nat.le_of_ble_eq_true rfl) ?_
  intro p e s m below meth c hx hb hml hr hlocks hown hts0 hP ls hl
  obtain ⟨hH, hE⟩ := hP
  have hts : ∀ w ∈ oa_T, w.before _ s = true := fun w h => hts0 w (List.mem_cons_of_mem _ h)
  have hS : va_S (fun q => b0 ≤ q) s.heap s.heap [] := va_S.rf
  have C : oa_Cx p s m _ meth c cX0_addSign 4 (some .boolean) RX0 D ca b0 ad := ⟨hx, hb, hml, hr, hlocks, hown, hts, hE, hw⟩
  have hl : lv_has ls 4 [(0, .ref (ad 5 n0)), (1, .int x1), (2, .int x2)] := hl
  unfold FX0_addSign at hf
  refine lv_iconst (v := (1 : Int32)) hx hb dX0_addSign_0 (by decide) ?_
  refine lv_bipush (v := (23 : Int32)) hx hb dX0_addSign_1 (by decide) ?_
  refine lv_iload_n hx hb dX0_addSign_3 rfl (lv_at hl 1 rfl) ?_
  refine lv_isub hx hb dX0_addSign_4 ?_
  refine lv_ishl hx hb dX0_addSign_5 ?_
  refine lv_istore_n (lv' := [(3, .int ((1 : Int32) <<< (((23 : Int32) - x1) &&& 31))), (0, .ref (ad 5 n0)), (1, .int x1), (2, .int x2)]) hx hb dX0_addSign_6 rfl hl (by decide) rfl (fun ls hl => ?_)
  refine lv_iload_n hx hb dX0_addSign_7 rfl (lv_at hl 3 rfl) ?_
  refine lv_bipush (v := (48 : Int32)) hx hb dX0_addSign_8 (by decide) ?_
  refine lv_icmp_eq (tgt := 19) hx hb dX0_addSign_10 (by decide) (fun hq1 => ?_) (fun hq1 => ?_)
  · rw [if_pos hq1] at hf
    exact bX0_addSign_19 C n n0 hn0 x1 x2 ((1 : Int32) <<< (((23 : Int32) - x1) &&& 31)) _ hf _ _ hH hS _ (lv_sub hl [1, 2, 3, 0] rfl)
  · rw [if_neg hq1] at hf
    refine lv_iload_n hx hb dX0_addSign_13 rfl (lv_at hl 3 rfl) ?_
    refine lv_bipush (v := (49 : Int32)) hx hb dX0_addSign_14 (by decide) ?_
    refine lv_icmp_ne (tgt := 51) hx hb dX0_addSign_16 (by decide) (fun hq2 => ?_) (fun hq2 => ?_)
    · rw [if_neg hq2] at hf
      refine lv_iload_n hx hb dX0_addSign_51 rfl (lv_at hl 3 rfl) ?_
      refine lv_bipush (v := (120 : Int32)) hx hb dX0_addSign_52 (by decide) ?_
      refine lv_icmp_lt (tgt := 63) hx hb dX0_addSign_54 (by decide) (fun hq3 => ?_) (fun hq3 => ?_)
      · rw [if_pos hq3] at hf
        exact bX0_addSign_63 C n n0 hn0 x1 x2 ((1 : Int32) <<< (((23 : Int32) - x1) &&& 31)) _ hf _ _ hH hS _ (lv_sub hl [1, 2, 3, 0] rfl)
      · rw [if_neg hq3] at hf
        refine lv_iload_n hx hb dX0_addSign_57 rfl (lv_at hl 3 rfl) ?_
        refine lv_bipush (v := (122 : Int32)) hx hb dX0_addSign_58 (by decide) ?_
        refine lv_icmp_le (tgt := 65) hx hb dX0_addSign_60 (by decide) (fun hq4 => ?_) (fun hq4 => ?_)
        · rw [if_pos hq4] at hf
          refine lv_aload_n hx hb dX0_addSign_65 rfl (lv_at hl 1 rfl) ?_
          refine oa_get (ci := 0) (C := RX0) (T := TX0) (N := 6) (v := .ref (ad 6 n0)) hx hb hts inX0 hown hE hH 5 n0 hn0 rfl rfl 0 (by decide) (hts _ tw_116) rfl dX0_addSign_66 ?_
          refine lv_iload_n hx hb dX0_addSign_69 rfl (lv_at hl 3 rfl) ?_
          refine lv_bipush (v := (120 : Int32)) hx hb dX0_addSign_70 (by decide) ?_
          refine lv_isub hx hb dX0_addSign_72 ?_
          obtain ⟨hk5, hf⟩ := oa_ck hf
          refine oa_ald (g := fun j => ad 7 (3 * n0 + j)) hx hb hE hH 6 n0 hn0 3 5 rfl rfl (oa_in_vp hk5) dX0_addSign_73 ?_
          refine lv_dup hx hb dX0_addSign_74 rfl ?_
          refine oa_get (ci := 2) (C := RX2) (T := TX2) (N := 4) (v := .int (M 7 (3 * n0 + (x2 - (120 : Int32)).toNatClampNeg) 0)) hx hb hts inX2 hown hE hH 7 (3 * n0 + (x2 - (120 : Int32)).toNatClampNeg) (oa_lt7 hn0 (oa_in_vp hk5)) rfl rfl 0 (by decide) (hts _ tw_99) rfl dX0_addSign_75 ?_
          refine lv_iload_n hx hb dX0_addSign_78 rfl (lv_at hl 0 rfl) ?_
          refine lv_ior hx hb dX0_addSign_79 ?_
          refine oa_put (ci := 2) (C := RX2) (T := TX2) (N := 4) (v := .int ((M 7 (3 * n0 + (x2 - (120 : Int32)).toNatClampNeg) 0) ||| ((1 : Int32) <<< (((23 : Int32) - x1) &&& 31)))) (x := ((M 7 (3 * n0 + (x2 - (120 : Int32)).toNatClampNeg) 0) ||| ((1 : Int32) <<< (((23 : Int32) - x1) &&& 31)))) hx hb hts inX2 tyX2 tyX2_ok nmX2 hown hE hw hH hS 7 (3 * n0 + (x2 - (120 : Int32)).toNatClampNeg) (oa_lt7 hn0 (oa_in_vp hk5)) rfl rfl 0 (by decide) (hts _ tw_99) rfl rfl rfl (Nat.le_of_ble_eq_true rfl) rfl dX0_addSign_80 (fun H locs hH hS => ?_)
          refine lv_iconst (v := (1 : Int32)) hx hb dX0_addSign_83 (by decide) ?_
          cases hf
          exact oa_reti hx hb hr hlocks rfl hS hH dX0_addSign_84
        · rw [if_neg hq4] at hf
          exact bX0_addSign_63 C n n0 hn0 x1 x2 ((1 : Int32) <<< (((23 : Int32) - x1) &&& 31)) _ hf _ _ hH hS _ (lv_sub hl [1, 2, 3, 0] rfl)
    · rw [if_pos hq2] at hf
      exact bX0_addSign_19 C n n0 hn0 x1 x2 ((1 : Int32) <<< (((23 : Int32) - x1) &&& 31)) _ hf _ _ hH hS _ (lv_sub hl [1, 2, 3, 0] rfl)
theorem cX0_addSign_ok (l : Launch) (D : va_G) (ca : Nat → ClassId) (ad : Nat → Nat → Nat) (b0 : Nat) (hw : oa_W ad b0) (n : Nat) (n0 : Nat) (hn0 : n0 < oa_n 5) (x1 : Int32) (x2 : Int32) (M : oa_M) (r : Int32) (M' : oa_M) (hf : FX0_addSign n n0 x1 x2 M = some (r, M')) : oa_Mi l yX0_addSign (oa_w yX0_addSign cX0_addSign 4 (some .boolean)) ({ frames := 0, cells := 0, slots := 0, locals := 0 } : Room) D ca ad b0 [.ref (ad 5 n0), .int x1, .int x2] M r M' := cX0_addSign_k l D ca ad b0 hw n n0 hn0 x1 x2 M (r, M') hf
def BX0_countOperands_55 (rec2 : Nat → Int32 → oa_M → Option (Int32 × oa_M)) (n : Nat) (n0 : Nat) (x1 : Int32) (x2 : Int32) (M : oa_M) : Option (Int32 × oa_M) := (rec2 n0 (x1 + (1 : Int32)) M)
def BX0_countOperands_41 (rec2 : Nat → Int32 → oa_M → Option (Int32 × oa_M)) (n : Nat) (n0 : Nat) (x1 : Int32) (x2 : Int32) (M : oa_M) : Option (Int32 × oa_M) := (if x2 ≤ 0 then (BX0_countOperands_55 rec2 n n0 x1 x2 M) else (BX0_countOperands_55 rec2 n n0 x1 x2 (oa_up M 5 n0 5 ((M 5 n0 5) + (1 : Int32)))))
def BX0_countOperands_39 (n : Nat) (n0 : Nat) (x1 : Int32) (x2 : Int32) (M : oa_M) : Option (Int32 × oa_M) := (some ((0 : Int32), M))
def BX0_countOperands_2 : Nat → Nat → Int32 → oa_M → Option (Int32 × oa_M)
  | 0, _, _, _ => none
  | n + 1, n0, x1, M => (if (3 : Int32) ≤ x1 then (some ((1 : Int32), M)) else (if oa_in x1 3 = true then (oa_bd (FX2_width n (3 * n0 + x1.toNatClampNeg) M) (fun r3 M4 => (if (16 : Int32) < r3 then (BX0_countOperands_39 n n0 x1 r3 M4) else (if r3 ≤ 0 then (BX0_countOperands_41 (BX0_countOperands_2 n) n n0 x1 r3 M4) else (if x1 ≤ (M4 5 n0 5) then (BX0_countOperands_41 (BX0_countOperands_2 n) n n0 x1 r3 M4) else (BX0_countOperands_39 n n0 x1 r3 M4)))))) else none))
def FX0_countOperands (n : Nat) (n0 : Nat) (M : oa_M) : Option (Int32 × oa_M) := (BX0_countOperands_2 n n0 (0 : Int32) M)
set_option maxHeartbeats 4000000 in
set_option maxRecDepth 100000 in
theorem bX0_countOperands_55 {p : Program} {l : Launch} {e : Env} {s : State} {m : MethodId} {args : Array Value} {below : List Frame} {meth : Method} {c : Code} {D : va_G} {ca : Nat → ClassId} {ad : Nat → Nat → Nat} {b0 : Nat} {o : Int32 × oa_M} (C : oa_Cx p s m args meth c cX0_countOperands 3 (some .boolean) RX0 D ca b0 ad) (rec2 : Nat → Int32 → oa_M → Option (Int32 × oa_M)) (hrec2 : ∀ (n0 : Nat) (hn0 : n0 < oa_n 5) (x1 : Int32) (M : oa_M), rec2 n0 x1 M = some o → ∀ (H : Heap) (locs : List Loc), oa_H D ca ad M H → va_S (fun q => b0 ≤ q) s.heap H locs → ∀ (ls : Array Slot), lv_has ls 3 [(0, .ref (ad 5 n0)), (1, .int x1)] → W p l e ({ frames := 2, cells := 0, slots := 0, locals := 40 } : Room) s m args below meth c H locs 0 0 (MQ below (va_Qi (fun (r' : Int32) (u : oa_M) => r' = o.1 ∧ u = o.2) (fun u t => oa_H D ca ad u t.heap) (fun q => b0 ≤ q)) args s 0 0 (fun q => b0 ≤ q)) (F0 m 2 ls [])) : ∀ (n : Nat), ∀ (n0 : Nat) (hn0 : n0 < oa_n 5) (x1 : Int32) (x2 : Int32) (M : oa_M), BX0_countOperands_55 rec2 n n0 x1 x2 M = some o → ∀ (H : Heap) (locs : List Loc), oa_H D ca ad M H → va_S (fun q => b0 ≤ q) s.heap H locs → ∀ (ls : Array Slot), lv_has ls 3 [(0, .ref (ad 5 n0)), (1, .int x1), (2, .int x2)] → W p l e ({ frames := 2, cells := 0, slots := 0, locals := 40 } : Room) s m args below meth c H locs 0 0 (MQ below (va_Qi (fun (r' : Int32) (u : oa_M) => r' = o.1 ∧ u = o.2) (fun u t => oa_H D ca ad u t.heap) (fun q => b0 ≤ q)) args s 0 0 (fun q => b0 ≤ q)) (F0 m 55 ls []) := by
  obtain ⟨hx, hb, hml, hr, hlocks, hown, hts, hE, hw⟩ := id C
  intro n n0 hn0 x1 x2 M hf H locs hH hS ls hl
  unfold BX0_countOperands_55 at hf
  refine lv_iinc (v := (x1 + (1 : Int32))) (lv' := [(1, .int (x1 + (1 : Int32))), (0, .ref (ad 5 n0)), (2, .int x2)]) hx hb dX0_countOperands_55 hl (k := 1) rfl rfl (by decide) rfl (fun ls hl => ?_)
  refine lv_goto (tgt := 2) hx hb dX0_countOperands_58 (by decide) ?_
  exact hrec2 n0 hn0 (x1 + (1 : Int32)) _ hf _ _ hH hS _ (lv_sub hl [1, 0] rfl)
set_option maxHeartbeats 4000000 in
set_option maxRecDepth 100000 in
theorem bX0_countOperands_41 {p : Program} {l : Launch} {e : Env} {s : State} {m : MethodId} {args : Array Value} {below : List Frame} {meth : Method} {c : Code} {D : va_G} {ca : Nat → ClassId} {ad : Nat → Nat → Nat} {b0 : Nat} {o : Int32 × oa_M} (C : oa_Cx p s m args meth c cX0_countOperands 3 (some .boolean) RX0 D ca b0 ad) (rec2 : Nat → Int32 → oa_M → Option (Int32 × oa_M)) (hrec2 : ∀ (n0 : Nat) (hn0 : n0 < oa_n 5) (x1 : Int32) (M : oa_M), rec2 n0 x1 M = some o → ∀ (H : Heap) (locs : List Loc), oa_H D ca ad M H → va_S (fun q => b0 ≤ q) s.heap H locs → ∀ (ls : Array Slot), lv_has ls 3 [(0, .ref (ad 5 n0)), (1, .int x1)] → W p l e ({ frames := 2, cells := 0, slots := 0, locals := 40 } : Room) s m args below meth c H locs 0 0 (MQ below (va_Qi (fun (r' : Int32) (u : oa_M) => r' = o.1 ∧ u = o.2) (fun u t => oa_H D ca ad u t.heap) (fun q => b0 ≤ q)) args s 0 0 (fun q => b0 ≤ q)) (F0 m 2 ls [])) : ∀ (n : Nat), ∀ (n0 : Nat) (hn0 : n0 < oa_n 5) (x1 : Int32) (x2 : Int32) (M : oa_M), BX0_countOperands_41 rec2 n n0 x1 x2 M = some o → ∀ (H : Heap) (locs : List Loc), oa_H D ca ad M H → va_S (fun q => b0 ≤ q) s.heap H locs → ∀ (ls : Array Slot), lv_has ls 3 [(0, .ref (ad 5 n0)), (1, .int x1), (2, .int x2)] → W p l e ({ frames := 2, cells := 0, slots := 0, locals := 40 } : Room) s m args below meth c H locs 0 0 (MQ below (va_Qi (fun (r' : Int32) (u : oa_M) => r' = o.1 ∧ u = o.2) (fun u t => oa_H D ca ad u t.heap) (fun q => b0 ≤ q)) args s 0 0 (fun q => b0 ≤ q)) (F0 m 41 ls []) := by
  obtain ⟨hx, hb, hml, hr, hlocks, hown, hts, hE, hw⟩ := id C
  intro n n0 hn0 x1 x2 M hf H locs hH hS ls hl
  unfold BX0_countOperands_41 at hf
  refine lv_iload_n hx hb dX0_countOperands_41 rfl (lv_at hl 2 rfl) ?_
  refine lv_if_le (tgt := 55) hx hb dX0_countOperands_42 (by decide) (fun hq1 => ?_) (fun hq1 => ?_)
  · rw [if_pos hq1] at hf
    exact bX0_countOperands_55 C _ hrec2 n n0 hn0 x1 x2 _ hf _ _ hH hS _ (lv_sub hl [0, 1, 2] rfl)
  · rw [if_neg hq1] at hf
    refine lv_aload_n hx hb dX0_countOperands_45 rfl (lv_at hl 0 rfl) ?_
    refine lv_dup hx hb dX0_countOperands_46 rfl ?_
    refine oa_get (ci := 0) (C := RX0) (T := TX0) (N := 6) (v := .int (M 5 n0 5)) hx hb hts inX0 hown hE hH 5 n0 hn0 rfl rfl 5 (by decide) (hts _ tw_125) rfl dX0_countOperands_47 ?_
    refine lv_iconst (v := (1 : Int32)) hx hb dX0_countOperands_50 (by decide) ?_
    refine lv_iadd hx hb dX0_countOperands_51 ?_
    refine oa_put (ci := 0) (C := RX0) (T := TX0) (N := 6) (v := .int ((M 5 n0 5) + (1 : Int32))) (x := ((M 5 n0 5) + (1 : Int32))) hx hb hts inX0 tyX0 tyX0_ok nmX0 hown hE hw hH hS 5 n0 hn0 rfl rfl 5 (by decide) (hts _ tw_125) rfl rfl rfl (Nat.le_of_ble_eq_true rfl) rfl dX0_countOperands_52 (fun H locs hH hS => ?_)
    exact bX0_countOperands_55 C _ hrec2 n n0 hn0 x1 x2 _ hf _ _ hH hS _ (lv_sub hl [0, 1, 2] rfl)
set_option maxHeartbeats 4000000 in
set_option maxRecDepth 100000 in
theorem bX0_countOperands_39 {p : Program} {l : Launch} {e : Env} {s : State} {m : MethodId} {args : Array Value} {below : List Frame} {meth : Method} {c : Code} {D : va_G} {ca : Nat → ClassId} {ad : Nat → Nat → Nat} {b0 : Nat} {o : Int32 × oa_M} (C : oa_Cx p s m args meth c cX0_countOperands 3 (some .boolean) RX0 D ca b0 ad) : ∀ (n : Nat), ∀ (n0 : Nat) (hn0 : n0 < oa_n 5) (x1 : Int32) (x2 : Int32) (M : oa_M), BX0_countOperands_39 n n0 x1 x2 M = some o → ∀ (H : Heap) (locs : List Loc), oa_H D ca ad M H → va_S (fun q => b0 ≤ q) s.heap H locs → ∀ (ls : Array Slot), lv_has ls 3 [(0, .ref (ad 5 n0)), (1, .int x1), (2, .int x2)] → W p l e ({ frames := 2, cells := 0, slots := 0, locals := 40 } : Room) s m args below meth c H locs 0 0 (MQ below (va_Qi (fun (r' : Int32) (u : oa_M) => r' = o.1 ∧ u = o.2) (fun u t => oa_H D ca ad u t.heap) (fun q => b0 ≤ q)) args s 0 0 (fun q => b0 ≤ q)) (F0 m 39 ls []) := by
  obtain ⟨hx, hb, hml, hr, hlocks, hown, hts, hE, hw⟩ := id C
  intro n n0 hn0 x1 x2 M hf H locs hH hS ls hl
  unfold BX0_countOperands_39 at hf
  refine lv_iconst (v := (0 : Int32)) hx hb dX0_countOperands_39 (by decide) ?_
  cases hf
  exact oa_reti hx hb hr hlocks rfl hS hH dX0_countOperands_40
set_option maxHeartbeats 4000000 in
set_option maxRecDepth 100000 in
theorem bX0_countOperands_2 {p : Program} {l : Launch} {e : Env} {s : State} {m : MethodId} {args : Array Value} {below : List Frame} {meth : Method} {c : Code} {D : va_G} {ca : Nat → ClassId} {ad : Nat → Nat → Nat} {b0 : Nat} {o : Int32 × oa_M} (C : oa_Cx p s m args meth c cX0_countOperands 3 (some .boolean) RX0 D ca b0 ad) : ∀ (n : Nat), ∀ (n0 : Nat) (hn0 : n0 < oa_n 5) (x1 : Int32) (M : oa_M), BX0_countOperands_2 n n0 x1 M = some o → ∀ (H : Heap) (locs : List Loc), oa_H D ca ad M H → va_S (fun q => b0 ≤ q) s.heap H locs → ∀ (ls : Array Slot), lv_has ls 3 [(0, .ref (ad 5 n0)), (1, .int x1)] → W p l e ({ frames := 2, cells := 0, slots := 0, locals := 40 } : Room) s m args below meth c H locs 0 0 (MQ below (va_Qi (fun (r' : Int32) (u : oa_M) => r' = o.1 ∧ u = o.2) (fun u t => oa_H D ca ad u t.heap) (fun q => b0 ≤ q)) args s 0 0 (fun q => b0 ≤ q)) (F0 m 2 ls []) := by
  obtain ⟨hx, hb, hml, hr, hlocks, hown, hts, hE, hw⟩ := id C
  intro n
  induction n with
  | zero => intro n0 hn0 x1 M hf; cases hf
  | succ n ih =>
    intro n0 hn0 x1 M hf H locs hH hS ls hl
    have hrec2 := ih
    unfold BX0_countOperands_2 at hf
    refine lv_iload_n hx hb dX0_countOperands_2 rfl (lv_at hl 1 rfl) ?_
    refine lv_aload_n hx hb dX0_countOperands_3 rfl (lv_at hl 0 rfl) ?_
    refine oa_get (ci := 0) (C := RX0) (T := TX0) (N := 6) (v := .ref (ad 6 n0)) hx hb hts inX0 hown hE hH 5 n0 hn0 rfl rfl 0 (by decide) (hts _ tw_116) rfl dX0_countOperands_4 ?_
    refine oa_len (v := (3 : Int32)) hx hb hE hH 6 n0 hn0 5 rfl rfl rfl dX0_countOperands_7 ?_
    refine lv_icmp_ge (tgt := 61) hx hb dX0_countOperands_8 (by decide) (fun hq1 => ?_) (fun hq1 => ?_)
    · rw [if_pos hq1] at hf
      refine lv_iconst (v := (1 : Int32)) hx hb dX0_countOperands_61 (by decide) ?_
      cases hf
      exact oa_reti hx hb hr hlocks rfl hS hH dX0_countOperands_62
    · rw [if_neg hq1] at hf
      refine lv_aload_n hx hb dX0_countOperands_11 rfl (lv_at hl 0 rfl) ?_
      refine oa_get (ci := 0) (C := RX0) (T := TX0) (N := 6) (v := .ref (ad 6 n0)) hx hb hts inX0 hown hE hH 5 n0 hn0 rfl rfl 0 (by decide) (hts _ tw_116) rfl dX0_countOperands_12 ?_
      refine lv_iload_n hx hb dX0_countOperands_15 rfl (lv_at hl 1 rfl) ?_
      obtain ⟨hk2, hf⟩ := oa_ck hf
      refine oa_ald (g := fun j => ad 7 (3 * n0 + j)) hx hb hE hH 6 n0 hn0 3 5 rfl rfl (oa_in_vp hk2) dX0_countOperands_16 ?_
      obtain ⟨r3, M4, hc5, hf⟩ := oa_bdE hf
      refine oa_cvi (As := []) (rest := []) ⟨hx, hb, hml, hown, hts⟩ (cX2_width_ok l D ca ad b0 hw n (3 * n0 + x1.toNatClampNeg) (oa_lt7 hn0 (oa_in_vp hk2)) _ _ _ hc5) (cwV 0 hts (oa_gV tw_296 tw_297 tw_298 tw_47 tw_299) rfl rfl rfl (by decide +kernel) ⟨Nat.le_of_ble_eq_true rfl, Nat.le_of_ble_eq_true rfl⟩) hE hH hS (oa_recv (k := 7) (ci := 2) hE hH (oa_lt7 hn0 (oa_in_vp hk2)) rfl rfl) rfl hl.1 rfl (Nat.le_of_ble_eq_true rfl) dX0_countOperands_17 ⟨by decide, by decide⟩ (fun H locs hH hS => ?_)
      refine lv_istore_n (lv' := [(2, .int r3), (0, .ref (ad 5 n0)), (1, .int x1)]) hx hb dX0_countOperands_20 rfl hl (by decide) rfl (fun ls hl => ?_)
      refine lv_iload_n hx hb dX0_countOperands_21 rfl (lv_at hl 0 rfl) ?_
      refine lv_bipush (v := (16 : Int32)) hx hb dX0_countOperands_22 (by decide) ?_
      refine lv_icmp_gt (tgt := 39) hx hb dX0_countOperands_24 (by decide) (fun hq6 => ?_) (fun hq6 => ?_)
      · rw [if_pos hq6] at hf
        exact bX0_countOperands_39 C n n0 hn0 x1 r3 _ hf _ _ hH hS _ (lv_sub hl [1, 2, 0] rfl)
      · rw [if_neg hq6] at hf
        refine lv_iload_n hx hb dX0_countOperands_27 rfl (lv_at hl 0 rfl) ?_
        refine lv_if_le (tgt := 41) hx hb dX0_countOperands_28 (by decide) (fun hq7 => ?_) (fun hq7 => ?_)
        · rw [if_pos hq7] at hf
          exact bX0_countOperands_41 C _ hrec2 n n0 hn0 x1 r3 _ hf _ _ hH hS _ (lv_sub hl [1, 2, 0] rfl)
        · rw [if_neg hq7] at hf
          refine lv_aload_n hx hb dX0_countOperands_31 rfl (lv_at hl 1 rfl) ?_
          refine oa_get (ci := 0) (C := RX0) (T := TX0) (N := 6) (v := .int (M4 5 n0 5)) hx hb hts inX0 hown hE hH 5 n0 hn0 rfl rfl 5 (by decide) (hts _ tw_125) rfl dX0_countOperands_32 ?_
          refine lv_iload_n hx hb dX0_countOperands_35 rfl (lv_at hl 2 rfl) ?_
          refine lv_icmp_ge (tgt := 41) hx hb dX0_countOperands_36 (by decide) (fun hq8 => ?_) (fun hq8 => ?_)
          · rw [if_pos hq8] at hf
            exact bX0_countOperands_41 C _ hrec2 n n0 hn0 x1 r3 _ hf _ _ hH hS _ (lv_sub hl [1, 2, 0] rfl)
          · rw [if_neg hq8] at hf
            exact bX0_countOperands_39 C n n0 hn0 x1 r3 _ hf _ _ hH hS _ (lv_sub hl [1, 2, 0] rfl)
set_option maxHeartbeats 4000000 in
set_option maxRecDepth 100000 in
theorem cX0_countOperands_k (l : Launch) (D : va_G) (ca : Nat → ClassId) (ad : Nat → Nat → Nat) (b0 : Nat) (hw : oa_W ad b0) (n : Nat) (n0 : Nat) (hn0 : n0 < oa_n 5) (M : oa_M) (o : Int32 × oa_M) (hf : FX0_countOperands n n0 M = some o) : oa_Mi l yX0_countOperands (oa_w yX0_countOperands cX0_countOperands 3 (some .boolean)) ({ frames := 2, cells := 0, slots := 0, locals := 40 } : Room) D ca ad b0 [.ref (ad 5 n0)] M o.1 o.2 := by
  refine oa_ofW (cc := cX0_countOperands) (maxL := 3) (ret := some .boolean) (by decide) rfl (Nat.le_of_ble_eq_true rfl) ?_
  intro p e s m below meth c hx hb hml hr hlocks hown hts0 hP ls hl
  obtain ⟨hH, hE⟩ := hP
  have hts : ∀ w ∈ oa_T, w.before _ s = true := fun w h => hts0 w (List.mem_cons_of_mem _ h)
  have hS : va_S (fun q => b0 ≤ q) s.heap s.heap [] := va_S.rf
  have C : oa_Cx p s m _ meth c cX0_countOperands 3 (some .boolean) RX0 D ca b0 ad := ⟨hx, hb, hml, hr, hlocks, hown, hts, hE, hw⟩
  have hl : lv_has ls 3 [(0, .ref (ad 5 n0))] := hl
  unfold FX0_countOperands at hf
  refine lv_iconst (v := (0 : Int32)) hx hb dX0_countOperands_0 (by decide) ?_
  refine lv_istore_n (lv' := [(1, .int (0 : Int32)), (0, .ref (ad 5 n0))]) hx hb dX0_countOperands_1 rfl hl (by decide) rfl (fun ls hl => ?_)
  exact bX0_countOperands_2 C n n0 hn0 (0 : Int32) _ hf _ _ hH hS _ (lv_sub hl [1, 0] rfl)
theorem cX0_countOperands_ok (l : Launch) (D : va_G) (ca : Nat → ClassId) (ad : Nat → Nat → Nat) (b0 : Nat) (hw : oa_W ad b0) (n : Nat) (n0 : Nat) (hn0 : n0 < oa_n 5) (M : oa_M) (r : Int32) (M' : oa_M) (hf : FX0_countOperands n n0 M = some (r, M')) : oa_Mi l yX0_countOperands (oa_w yX0_countOperands cX0_countOperands 3 (some .boolean)) ({ frames := 2, cells := 0, slots := 0, locals := 40 } : Room) D ca ad b0 [.ref (ad 5 n0)] M r M' := cX0_countOperands_k l D ca ad b0 hw n n0 hn0 M (r, M') hf
def BX0_agreesWith_18 (n : Nat) (n0 : Nat) (x1 : Int32) (z0 : Int32) (M : oa_M) : Option (Int32 × oa_M) := (some (oa_nz z0, M))
def FX0_agreesWith (n : Nat) (n0 : Nat) (x1 : Int32) (M : oa_M) : Option (Int32 × oa_M) := (if (x1 &&& (M 5 n0 3)) = (M 5 n0 4) then (BX0_agreesWith_18 n n0 x1 (1 : Int32) M) else (BX0_agreesWith_18 n n0 x1 (0 : Int32) M))
set_option maxHeartbeats 4000000 in
set_option maxRecDepth 100000 in
theorem bX0_agreesWith_18 {p : Program} {l : Launch} {e : Env} {s : State} {m : MethodId} {args : Array Value} {below : List Frame} {meth : Method} {c : Code} {D : va_G} {ca : Nat → ClassId} {ad : Nat → Nat → Nat} {b0 : Nat} {o : Int32 × oa_M} (C : oa_Cx p s m args meth c cX0_agreesWith 2 (some .boolean) RX0 D ca b0 ad) : ∀ (n : Nat), ∀ (n0 : Nat) (hn0 : n0 < oa_n 5) (x1 : Int32) (z0 : Int32) (M : oa_M), BX0_agreesWith_18 n n0 x1 z0 M = some o → ∀ (H : Heap) (locs : List Loc), oa_H D ca ad M H → va_S (fun q => b0 ≤ q) s.heap H locs → ∀ (ls : Array Slot), lv_has ls 2 [(0, .ref (ad 5 n0)), (1, .int x1)] → W p l e ({ frames := 0, cells := 0, slots := 0, locals := 0 } : Room) s m args below meth c H locs 0 0 (MQ below (va_Qi (fun (r' : Int32) (u : oa_M) => r' = o.1 ∧ u = o.2) (fun u t => oa_H D ca ad u t.heap) (fun q => b0 ≤ q)) args s 0 0 (fun q => b0 ≤ q)) (F0 m 18 ls [.int z0]) := by
  obtain ⟨hx, hb, hml, hr, hlocks, hown, hts, hE, hw⟩ := id C
  intro n n0 hn0 x1 z0 M hf H locs hH hS ls hl
  unfold BX0_agreesWith_18 at hf
  cases hf
  exact oa_reti hx hb hr hlocks rfl hS hH dX0_agreesWith_18
set_option maxHeartbeats 4000000 in
set_option maxRecDepth 100000 in
theorem cX0_agreesWith_k (l : Launch) (D : va_G) (ca : Nat → ClassId) (ad : Nat → Nat → Nat) (b0 : Nat) (hw : oa_W ad b0) (n : Nat) (n0 : Nat) (hn0 : n0 < oa_n 5) (x1 : Int32) (M : oa_M) (o : Int32 × oa_M) (hf : FX0_agreesWith n n0 x1 M = some o) : oa_Mi l yX0_agreesWith (oa_w yX0_agreesWith cX0_agreesWith 2 (some .boolean)) ({ frames := 0, cells := 0, slots := 0, locals := 0 } : Room) D ca ad b0 [.ref (ad 5 n0), .int x1] M o.1 o.2 := by
  refine oa_ofW (cc := cX0_agreesWith) (maxL := 2) (ret := some .boolean) (by decide) rfl (Nat.le_of_ble_eq_true rfl) ?_
  intro p e s m below meth c hx hb hml hr hlocks hown hts0 hP ls hl
  obtain ⟨hH, hE⟩ := hP
  have hts : ∀ w ∈ oa_T, w.before _ s = true := fun w h => hts0 w (List.mem_cons_of_mem _ h)
  have hS : va_S (fun q => b0 ≤ q) s.heap s.heap [] := va_S.rf
  have C : oa_Cx p s m _ meth c cX0_agreesWith 2 (some .boolean) RX0 D ca b0 ad := ⟨hx, hb, hml, hr, hlocks, hown, hts, hE, hw⟩
  have hl : lv_has ls 2 [(0, .ref (ad 5 n0)), (1, .int x1)] := hl
  unfold FX0_agreesWith at hf
  refine lv_iload_n hx hb dX0_agreesWith_0 rfl (lv_at hl 1 rfl) ?_
  refine lv_aload_n hx hb dX0_agreesWith_1 rfl (lv_at hl 0 rfl) ?_
  refine oa_get (ci := 0) (C := RX0) (T := TX0) (N := 6) (v := .int (M 5 n0 3)) hx hb hts inX0 hown hE hH 5 n0 hn0 rfl rfl 3 (by decide) (hts _ tw_122) rfl dX0_agreesWith_2 ?_
  refine lv_iand hx hb dX0_agreesWith_5 ?_
  refine lv_aload_n hx hb dX0_agreesWith_6 rfl (lv_at hl 0 rfl) ?_
  refine oa_get (ci := 0) (C := RX0) (T := TX0) (N := 6) (v := .int (M 5 n0 4)) hx hb hts inX0 hown hE hH 5 n0 hn0 rfl rfl 4 (by decide) (hts _ tw_123) rfl dX0_agreesWith_7 ?_
  refine lv_icmp_ne (tgt := 17) hx hb dX0_agreesWith_10 (by decide) (fun hq1 => ?_) (fun hq1 => ?_)
  · rw [if_neg hq1] at hf
    refine lv_iconst (v := (0 : Int32)) hx hb dX0_agreesWith_17 (by decide) ?_
    exact bX0_agreesWith_18 C n n0 hn0 x1 (0 : Int32) _ hf _ _ hH hS _ (lv_sub hl [0, 1] rfl)
  · rw [if_pos hq1] at hf
    refine lv_iconst (v := (1 : Int32)) hx hb dX0_agreesWith_13 (by decide) ?_
    refine lv_goto (tgt := 18) hx hb dX0_agreesWith_14 (by decide) ?_
    exact bX0_agreesWith_18 C n n0 hn0 x1 (1 : Int32) _ hf _ _ hH hS _ (lv_sub hl [0, 1] rfl)
theorem cX0_agreesWith_ok (l : Launch) (D : va_G) (ca : Nat → ClassId) (ad : Nat → Nat → Nat) (b0 : Nat) (hw : oa_W ad b0) (n : Nat) (n0 : Nat) (hn0 : n0 < oa_n 5) (x1 : Int32) (M : oa_M) (r : Int32) (M' : oa_M) (hf : FX0_agreesWith n n0 x1 M = some (r, M')) : oa_Mi l yX0_agreesWith (oa_w yX0_agreesWith cX0_agreesWith 2 (some .boolean)) ({ frames := 0, cells := 0, slots := 0, locals := 0 } : Room) D ca ad b0 [.ref (ad 5 n0), .int x1] M r M' := cX0_agreesWith_k l D ca ad b0 hw n n0 hn0 x1 M (r, M') hf
def BX0_isNarrowerThan_67 (n : Nat) (n0 : Nat) (n1 : Nat) (x2 : Int32) (z0 : Int32) (M : oa_M) : Option (Int32 × oa_M) := (some (oa_nz z0, M))
def BX0_isNarrowerThan_66 (n : Nat) (n0 : Nat) (n1 : Nat) (x2 : Int32) (M : oa_M) : Option (Int32 × oa_M) := (BX0_isNarrowerThan_67 n n0 n1 x2 (0 : Int32) M)
def BX0_isNarrowerThan_62 (n : Nat) (n0 : Nat) (n1 : Nat) (x2 : Int32) (M : oa_M) : Option (Int32 × oa_M) := (BX0_isNarrowerThan_67 n n0 n1 x2 (1 : Int32) M)
def BX0_isNarrowerThan_25 (n : Nat) (n0 : Nat) (n1 : Nat) (M : oa_M) : Option (Int32 × oa_M) := (some ((0 : Int32), M))
def FX0_isNarrowerThan (n : Nat) (n0 : Nat) (n1 : Nat) (M : oa_M) : Option (Int32 × oa_M) := (if ((M 5 n1 3) &&& ((M 5 n0 3) ^^^ (-1 : Int32))) = 0 then (oa_bd (FX0_agreesWith n n1 (M 5 n0 4) M) (fun r2 M3 => (if r2 = 0 then (BX0_isNarrowerThan_25 n n0 n1 M3) else (oa_bd (FJ6_bitCount_0f7a4 n (M3 5 n0 3) M3) (fun r6 M7 => (oa_bd (FJ6_bitCount_0f7a4 n (M7 5 n1 3) M7) (fun r9 M10 => (if 0 < (r6 - r9) then (BX0_isNarrowerThan_62 n n0 n1 (r6 - r9) M10) else (if (r6 - r9) = 0 then (if (M10 5 n0 2) ≤ (M10 5 n1 2) then (BX0_isNarrowerThan_66 n n0 n1 (r6 - r9) M10) else (BX0_isNarrowerThan_62 n n0 n1 (r6 - r9) M10)) else (BX0_isNarrowerThan_66 n n0 n1 (r6 - r9) M10)))))))))) else (BX0_isNarrowerThan_25 n n0 n1 M))
set_option maxHeartbeats 4000000 in
set_option maxRecDepth 100000 in
theorem bX0_isNarrowerThan_67 {p : Program} {l : Launch} {e : Env} {s : State} {m : MethodId} {args : Array Value} {below : List Frame} {meth : Method} {c : Code} {D : va_G} {ca : Nat → ClassId} {ad : Nat → Nat → Nat} {b0 : Nat} {o : Int32 × oa_M} (C : oa_Cx p s m args meth c cX0_isNarrowerThan 3 (some .boolean) RX0 D ca b0 ad) : ∀ (n : Nat), ∀ (n0 : Nat) (hn0 : n0 < oa_n 5) (n1 : Nat) (hn1 : n1 < oa_n 5) (x2 : Int32) (z0 : Int32) (M : oa_M), BX0_isNarrowerThan_67 n n0 n1 x2 z0 M = some o → ∀ (H : Heap) (locs : List Loc), oa_H D ca ad M H → va_S (fun q => b0 ≤ q) s.heap H locs → ∀ (ls : Array Slot), lv_has ls 3 [(0, .ref (ad 5 n0)), (1, .ref (ad 5 n1)), (2, .int x2)] → W p l e ({ frames := 1, cells := 0, slots := 0, locals := 21 } : Room) s m args below meth c H locs 0 0 (MQ below (va_Qi (fun (r' : Int32) (u : oa_M) => r' = o.1 ∧ u = o.2) (fun u t => oa_H D ca ad u t.heap) (fun q => b0 ≤ q)) args s 0 0 (fun q => b0 ≤ q)) (F0 m 67 ls [.int z0]) := by
  obtain ⟨hx, hb, hml, hr, hlocks, hown, hts, hE, hw⟩ := id C
  intro n n0 hn0 n1 hn1 x2 z0 M hf H locs hH hS ls hl
  unfold BX0_isNarrowerThan_67 at hf
  cases hf
  exact oa_reti hx hb hr hlocks rfl hS hH dX0_isNarrowerThan_67
set_option maxHeartbeats 4000000 in
set_option maxRecDepth 100000 in
theorem bX0_isNarrowerThan_66 {p : Program} {l : Launch} {e : Env} {s : State} {m : MethodId} {args : Array Value} {below : List Frame} {meth : Method} {c : Code} {D : va_G} {ca : Nat → ClassId} {ad : Nat → Nat → Nat} {b0 : Nat} {o : Int32 × oa_M} (C : oa_Cx p s m args meth c cX0_isNarrowerThan 3 (some .boolean) RX0 D ca b0 ad) : ∀ (n : Nat), ∀ (n0 : Nat) (hn0 : n0 < oa_n 5) (n1 : Nat) (hn1 : n1 < oa_n 5) (x2 : Int32) (M : oa_M), BX0_isNarrowerThan_66 n n0 n1 x2 M = some o → ∀ (H : Heap) (locs : List Loc), oa_H D ca ad M H → va_S (fun q => b0 ≤ q) s.heap H locs → ∀ (ls : Array Slot), lv_has ls 3 [(0, .ref (ad 5 n0)), (1, .ref (ad 5 n1)), (2, .int x2)] → W p l e ({ frames := 1, cells := 0, slots := 0, locals := 21 } : Room) s m args below meth c H locs 0 0 (MQ below (va_Qi (fun (r' : Int32) (u : oa_M) => r' = o.1 ∧ u = o.2) (fun u t => oa_H D ca ad u t.heap) (fun q => b0 ≤ q)) args s 0 0 (fun q => b0 ≤ q)) (F0 m 66 ls []) := by
  obtain ⟨hx, hb, hml, hr, hlocks, hown, hts, hE, hw⟩ := id C
  intro n n0 hn0 n1 hn1 x2 M hf H locs hH hS ls hl
  unfold BX0_isNarrowerThan_66 at hf
  refine lv_iconst (v := (0 : Int32)) hx hb dX0_isNarrowerThan_66 (by decide) ?_
  exact bX0_isNarrowerThan_67 C n n0 hn0 n1 hn1 x2 (0 : Int32) _ hf _ _ hH hS _ (lv_sub hl [0, 1, 2] rfl)
set_option maxHeartbeats 4000000 in
set_option maxRecDepth 100000 in
theorem bX0_isNarrowerThan_62 {p : Program} {l : Launch} {e : Env} {s : State} {m : MethodId} {args : Array Value} {below : List Frame} {meth : Method} {c : Code} {D : va_G} {ca : Nat → ClassId} {ad : Nat → Nat → Nat} {b0 : Nat} {o : Int32 × oa_M} (C : oa_Cx p s m args meth c cX0_isNarrowerThan 3 (some .boolean) RX0 D ca b0 ad) : ∀ (n : Nat), ∀ (n0 : Nat) (hn0 : n0 < oa_n 5) (n1 : Nat) (hn1 : n1 < oa_n 5) (x2 : Int32) (M : oa_M), BX0_isNarrowerThan_62 n n0 n1 x2 M = some o → ∀ (H : Heap) (locs : List Loc), oa_H D ca ad M H → va_S (fun q => b0 ≤ q) s.heap H locs → ∀ (ls : Array Slot), lv_has ls 3 [(0, .ref (ad 5 n0)), (1, .ref (ad 5 n1)), (2, .int x2)] → W p l e ({ frames := 1, cells := 0, slots := 0, locals := 21 } : Room) s m args below meth c H locs 0 0 (MQ below (va_Qi (fun (r' : Int32) (u : oa_M) => r' = o.1 ∧ u = o.2) (fun u t => oa_H D ca ad u t.heap) (fun q => b0 ≤ q)) args s 0 0 (fun q => b0 ≤ q)) (F0 m 62 ls []) := by
  obtain ⟨hx, hb, hml, hr, hlocks, hown, hts, hE, hw⟩ := id C
  intro n n0 hn0 n1 hn1 x2 M hf H locs hH hS ls hl
  unfold BX0_isNarrowerThan_62 at hf
  refine lv_iconst (v := (1 : Int32)) hx hb dX0_isNarrowerThan_62 (by decide) ?_
  refine lv_goto (tgt := 67) hx hb dX0_isNarrowerThan_63 (by decide) ?_
  exact bX0_isNarrowerThan_67 C n n0 hn0 n1 hn1 x2 (1 : Int32) _ hf _ _ hH hS _ (lv_sub hl [0, 1, 2] rfl)
set_option maxHeartbeats 4000000 in
set_option maxRecDepth 100000 in
theorem bX0_isNarrowerThan_25 {p : Program} {l : Launch} {e : Env} {s : State} {m : MethodId} {args : Array Value} {below : List Frame} {meth : Method} {c : Code} {D : va_G} {ca : Nat → ClassId} {ad : Nat → Nat → Nat} {b0 : Nat} {o : Int32 × oa_M} (C : oa_Cx p s m args meth c cX0_isNarrowerThan 3 (some .boolean) RX0 D ca b0 ad) : ∀ (n : Nat), ∀ (n0 : Nat) (hn0 : n0 < oa_n 5) (n1 : Nat) (hn1 : n1 < oa_n 5) (M : oa_M), BX0_isNarrowerThan_25 n n0 n1 M = some o → ∀ (H : Heap) (locs : List Loc), oa_H D ca ad M H → va_S (fun q => b0 ≤ q) s.heap H locs → ∀ (ls : Array Slot), lv_has ls 3 [(0, .ref (ad 5 n0)), (1, .ref (ad 5 n1))] → W p l e ({ frames := 1, cells := 0, slots := 0, locals := 21 } : Room) s m args below meth c H locs 0 0 (MQ below (va_Qi (fun (r' : Int32) (u : oa_M) => r' = o.1 ∧ u = o.2) (fun u t => oa_H D ca ad u t.heap) (fun q => b0 ≤ q)) args s 0 0 (fun q => b0 ≤ q)) (F0 m 25 ls []) := by
  obtain ⟨hx, hb, hml, hr, hlocks, hown, hts, hE, hw⟩ := id C
  intro n n0 hn0 n1 hn1 M hf H locs hH hS ls hl
  unfold BX0_isNarrowerThan_25 at hf
  refine lv_iconst (v := (0 : Int32)) hx hb dX0_isNarrowerThan_25 (by decide) ?_
  cases hf
  exact oa_reti hx hb hr hlocks rfl hS hH dX0_isNarrowerThan_26
set_option maxHeartbeats 4000000 in
set_option maxRecDepth 100000 in
theorem cX0_isNarrowerThan_k (l : Launch) (D : va_G) (ca : Nat → ClassId) (ad : Nat → Nat → Nat) (b0 : Nat) (hw : oa_W ad b0) (n : Nat) (n0 : Nat) (hn0 : n0 < oa_n 5) (n1 : Nat) (hn1 : n1 < oa_n 5) (M : oa_M) (o : Int32 × oa_M) (hf : FX0_isNarrowerThan n n0 n1 M = some o) : oa_Mi l yX0_isNarrowerThan (oa_w yX0_isNarrowerThan cX0_isNarrowerThan 3 (some .boolean)) ({ frames := 1, cells := 0, slots := 0, locals := 21 } : Room) D ca ad b0 [.ref (ad 5 n0), .ref (ad 5 n1)] M o.1 o.2 := by
  refine oa_ofW (cc := cX0_isNarrowerThan) (maxL := 3) (ret := some .boolean) (by decide) rfl (Nat.le_of_ble_eq_true rfl) ?_
  intro p e s m below meth c hx hb hml hr hlocks hown hts0 hP ls hl
  obtain ⟨hH, hE⟩ := hP
  have hts : ∀ w ∈ oa_T, w.before _ s = true := fun w h => hts0 w (List.mem_cons_of_mem _ h)
  have hS : va_S (fun q => b0 ≤ q) s.heap s.heap [] := va_S.rf
  have C : oa_Cx p s m _ meth c cX0_isNarrowerThan 3 (some .boolean) RX0 D ca b0 ad := ⟨hx, hb, hml, hr, hlocks, hown, hts, hE, hw⟩
  have hl : lv_has ls 3 [(0, .ref (ad 5 n0)), (1, .ref (ad 5 n1))] := hl
  unfold FX0_isNarrowerThan at hf
  refine lv_aload_n hx hb dX0_isNarrowerThan_0 rfl (lv_at hl 1 rfl) ?_
  refine oa_get (ci := 0) (C := RX0) (T := TX0) (N := 6) (v := .int (M 5 n1 3)) hx hb hts inX0 hown hE hH 5 n1 hn1 rfl rfl 3 (by decide) (hts _ tw_122) rfl dX0_isNarrowerThan_1 ?_
  refine lv_aload_n hx hb dX0_isNarrowerThan_4 rfl (lv_at hl 0 rfl) ?_
  refine oa_get (ci := 0) (C := RX0) (T := TX0) (N := 6) (v := .int (M 5 n0 3)) hx hb hts inX0 hown hE hH 5 n0 hn0 rfl rfl 3 (by decide) (hts _ tw_122) rfl dX0_isNarrowerThan_5 ?_
  refine lv_iconst (v := (-1 : Int32)) hx hb dX0_isNarrowerThan_8 (by decide) ?_
  refine lv_ixor hx hb dX0_isNarrowerThan_9 ?_
  refine lv_iand hx hb dX0_isNarrowerThan_10 ?_
  refine lv_if_ne (tgt := 25) hx hb dX0_isNarrowerThan_11 (by decide) (fun hq1 => ?_) (fun hq1 => ?_)
  · rw [if_neg hq1] at hf
    exact bX0_isNarrowerThan_25 C n n0 hn0 n1 hn1 _ hf _ _ hH hS _ (lv_sub hl [0, 1] rfl)
  · rw [if_pos hq1] at hf
    refine lv_aload_n hx hb dX0_isNarrowerThan_14 rfl (lv_at hl 1 rfl) ?_
    refine lv_aload_n hx hb dX0_isNarrowerThan_15 rfl (lv_at hl 0 rfl) ?_
    refine oa_get (ci := 0) (C := RX0) (T := TX0) (N := 6) (v := .int (M 5 n0 4)) hx hb hts inX0 hown hE hH 5 n0 hn0 rfl rfl 4 (by decide) (hts _ tw_123) rfl dX0_isNarrowerThan_16 ?_
    obtain ⟨r2, M3, hc4, hf⟩ := oa_bdE hf
    refine oa_cvi (As := [.int (M 5 n0 4)]) (rest := []) ⟨hx, hb, hml, hown, hts⟩ (cX0_agreesWith_ok l D ca ad b0 hw n n1 hn1 (M 5 n0 4) _ _ _ hc4) (cwV 1 hts (oa_gV tw_219 tw_220 tw_221 tw_46 tw_222) rfl rfl rfl (by decide +kernel) ⟨Nat.le_of_ble_eq_true rfl, Nat.le_of_ble_eq_true rfl⟩) hE hH hS (oa_recv (k := 5) (ci := 0) hE hH hn1 rfl rfl) rfl hl.1 rfl (Nat.le_of_ble_eq_true rfl) dX0_isNarrowerThan_19 ⟨by decide, by decide⟩ (fun H locs hH hS => ?_)
    refine lv_if_ne (tgt := 27) hx hb dX0_isNarrowerThan_22 (by decide) (fun hq5 => ?_) (fun hq5 => ?_)
    · rw [if_neg hq5] at hf
      refine lv_aload_n hx hb dX0_isNarrowerThan_27 rfl (lv_at hl 0 rfl) ?_
      refine oa_get (ci := 0) (C := RX0) (T := TX0) (N := 6) (v := .int (M3 5 n0 3)) hx hb hts inX0 hown hE hH 5 n0 hn0 rfl rfl 3 (by decide) (hts _ tw_122) rfl dX0_isNarrowerThan_28 ?_
      obtain ⟨r6, M7, hc8, hf⟩ := oa_bdE hf
      refine oa_csi (As := [.int (M3 5 n0 3)]) (rest := []) ⟨hx, hb, hml, hown, hts⟩ (cJ6_bitCount_0f7a4_ok l D ca ad b0 hw n (M3 5 n0 3) _ _ _ hc8) (va_cwS 1 hts (oa_gS tw_223 tw_224 tw_50 tw_225) rfl rfl rfl (by decide +kernel) ⟨Nat.le_of_ble_eq_true rfl, Nat.le_of_ble_eq_true rfl⟩) hE hH hS rfl hl.1 rfl (Nat.le_of_ble_eq_true rfl) dX0_isNarrowerThan_31 ⟨by decide, by decide⟩ (fun H locs hH hS => ?_)
      refine lv_aload_n hx hb dX0_isNarrowerThan_34 rfl (lv_at hl 1 rfl) ?_
      refine oa_get (ci := 0) (C := RX0) (T := TX0) (N := 6) (v := .int (M7 5 n1 3)) hx hb hts inX0 hown hE hH 5 n1 hn1 rfl rfl 3 (by decide) (hts _ tw_122) rfl dX0_isNarrowerThan_35 ?_
      obtain ⟨r9, M10, hc11, hf⟩ := oa_bdE hf
      refine oa_csi (As := [.int (M7 5 n1 3)]) (rest := [.int r6]) ⟨hx, hb, hml, hown, hts⟩ (cJ6_bitCount_0f7a4_ok l D ca ad b0 hw n (M7 5 n1 3) _ _ _ hc11) (va_cwS 1 hts (oa_gS tw_223 tw_224 tw_50 tw_225) rfl rfl rfl (by decide +kernel) ⟨Nat.le_of_ble_eq_true rfl, Nat.le_of_ble_eq_true rfl⟩) hE hH hS rfl hl.1 rfl (Nat.le_of_ble_eq_true rfl) dX0_isNarrowerThan_38 ⟨by decide, by decide⟩ (fun H locs hH hS => ?_)
      refine lv_isub hx hb dX0_isNarrowerThan_41 ?_
      refine lv_istore_n (lv' := [(2, .int (r6 - r9)), (0, .ref (ad 5 n0)), (1, .ref (ad 5 n1))]) hx hb dX0_isNarrowerThan_42 rfl hl (by decide) rfl (fun ls hl => ?_)
      refine lv_iload_n hx hb dX0_isNarrowerThan_43 rfl (lv_at hl 0 rfl) ?_
      refine lv_if_gt (tgt := 62) hx hb dX0_isNarrowerThan_44 (by decide) (fun hq12 => ?_) (fun hq12 => ?_)
      · rw [if_pos hq12] at hf
        exact bX0_isNarrowerThan_62 C n n0 hn0 n1 hn1 (r6 - r9) _ hf _ _ hH hS _ (lv_sub hl [1, 2, 0] rfl)
      · rw [if_neg hq12] at hf
        refine lv_iload_n hx hb dX0_isNarrowerThan_47 rfl (lv_at hl 0 rfl) ?_
        refine lv_if_ne (tgt := 66) hx hb dX0_isNarrowerThan_48 (by decide) (fun hq13 => ?_) (fun hq13 => ?_)
        · rw [if_neg hq13] at hf
          exact bX0_isNarrowerThan_66 C n n0 hn0 n1 hn1 (r6 - r9) _ hf _ _ hH hS _ (lv_sub hl [1, 2, 0] rfl)
        · rw [if_pos hq13] at hf
          refine lv_aload_n hx hb dX0_isNarrowerThan_51 rfl (lv_at hl 1 rfl) ?_
          refine oa_get (ci := 0) (C := RX0) (T := TX0) (N := 6) (v := .int (M10 5 n0 2)) hx hb hts inX0 hown hE hH 5 n0 hn0 rfl rfl 2 (by decide) (hts _ tw_120) rfl dX0_isNarrowerThan_52 ?_
          refine lv_aload_n hx hb dX0_isNarrowerThan_55 rfl (lv_at hl 2 rfl) ?_
          refine oa_get (ci := 0) (C := RX0) (T := TX0) (N := 6) (v := .int (M10 5 n1 2)) hx hb hts inX0 hown hE hH 5 n1 hn1 rfl rfl 2 (by decide) (hts _ tw_120) rfl dX0_isNarrowerThan_56 ?_
          refine lv_icmp_le (tgt := 66) hx hb dX0_isNarrowerThan_59 (by decide) (fun hq14 => ?_) (fun hq14 => ?_)
          · rw [if_pos hq14] at hf
            exact bX0_isNarrowerThan_66 C n n0 hn0 n1 hn1 (r6 - r9) _ hf _ _ hH hS _ (lv_sub hl [1, 2, 0] rfl)
          · rw [if_neg hq14] at hf
            exact bX0_isNarrowerThan_62 C n n0 hn0 n1 hn1 (r6 - r9) _ hf _ _ hH hS _ (lv_sub hl [1, 2, 0] rfl)
    · rw [if_pos hq5] at hf
      exact bX0_isNarrowerThan_25 C n n0 hn0 n1 hn1 _ hf _ _ hH hS _ (lv_sub hl [0, 1] rfl)
theorem cX0_isNarrowerThan_ok (l : Launch) (D : va_G) (ca : Nat → ClassId) (ad : Nat → Nat → Nat) (b0 : Nat) (hw : oa_W ad b0) (n : Nat) (n0 : Nat) (hn0 : n0 < oa_n 5) (n1 : Nat) (hn1 : n1 < oa_n 5) (M : oa_M) (r : Int32) (M' : oa_M) (hf : FX0_isNarrowerThan n n0 n1 M = some (r, M')) : oa_Mi l yX0_isNarrowerThan (oa_w yX0_isNarrowerThan cX0_isNarrowerThan 3 (some .boolean)) ({ frames := 1, cells := 0, slots := 0, locals := 21 } : Room) D ca ad b0 [.ref (ad 5 n0), .ref (ad 5 n1)] M r M' := cX0_isNarrowerThan_k l D ca ad b0 hw n n0 hn0 n1 hn1 M (r, M') hf
def BX0_clashesWith_53 (n : Nat) (n0 : Nat) (n1 : Nat) (x2 : Int32) (z0 : Int32) (M : oa_M) : Option (Int32 × oa_M) := (some (oa_nz z0, M))
def BX0_clashesWith_52 (n : Nat) (n0 : Nat) (n1 : Nat) (x2 : Int32) (M : oa_M) : Option (Int32 × oa_M) := (BX0_clashesWith_53 n n0 n1 x2 (0 : Int32) M)
def BX0_clashesWith_27 (n : Nat) (n0 : Nat) (n1 : Nat) (z0 : Int32) (M : oa_M) : Option (Int32 × oa_M) := (if z0 = 0 then (oa_bd (FX0_isNarrowerThan n n0 n1 M) (fun r2 M3 => (if r2 = 0 then (oa_bd (FX0_isNarrowerThan n n1 n0 M3) (fun r6 M7 => (if r6 = 0 then (BX0_clashesWith_53 n n0 n1 z0 (1 : Int32) M7) else (BX0_clashesWith_52 n n0 n1 z0 M7)))) else (BX0_clashesWith_52 n n0 n1 z0 M3)))) else (BX0_clashesWith_52 n n0 n1 z0 M))
def FX0_clashesWith (n : Nat) (n0 : Nat) (n1 : Nat) (M : oa_M) : Option (Int32 × oa_M) := (if (((M 5 n0 3) &&& (M 5 n1 3)) &&& ((M 5 n0 4) ^^^ (M 5 n1 4))) = 0 then (BX0_clashesWith_27 n n0 n1 (0 : Int32) M) else (BX0_clashesWith_27 n n0 n1 (1 : Int32) M))
set_option maxHeartbeats 4000000 in
set_option maxRecDepth 100000 in
theorem bX0_clashesWith_53 {p : Program} {l : Launch} {e : Env} {s : State} {m : MethodId} {args : Array Value} {below : List Frame} {meth : Method} {c : Code} {D : va_G} {ca : Nat → ClassId} {ad : Nat → Nat → Nat} {b0 : Nat} {o : Int32 × oa_M} (C : oa_Cx p s m args meth c cX0_clashesWith 3 (some .boolean) RX0 D ca b0 ad) : ∀ (n : Nat), ∀ (n0 : Nat) (hn0 : n0 < oa_n 5) (n1 : Nat) (hn1 : n1 < oa_n 5) (x2 : Int32) (z0 : Int32) (M : oa_M), BX0_clashesWith_53 n n0 n1 x2 z0 M = some o → ∀ (H : Heap) (locs : List Loc), oa_H D ca ad M H → va_S (fun q => b0 ≤ q) s.heap H locs → ∀ (ls : Array Slot), lv_has ls 3 [(0, .ref (ad 5 n0)), (1, .ref (ad 5 n1)), (2, .int x2)] → W p l e ({ frames := 2, cells := 0, slots := 0, locals := 43 } : Room) s m args below meth c H locs 0 0 (MQ below (va_Qi (fun (r' : Int32) (u : oa_M) => r' = o.1 ∧ u = o.2) (fun u t => oa_H D ca ad u t.heap) (fun q => b0 ≤ q)) args s 0 0 (fun q => b0 ≤ q)) (F0 m 53 ls [.int z0]) := by
  obtain ⟨hx, hb, hml, hr, hlocks, hown, hts, hE, hw⟩ := id C
  intro n n0 hn0 n1 hn1 x2 z0 M hf H locs hH hS ls hl
  unfold BX0_clashesWith_53 at hf
  cases hf
  exact oa_reti hx hb hr hlocks rfl hS hH dX0_clashesWith_53
set_option maxHeartbeats 4000000 in
set_option maxRecDepth 100000 in
theorem bX0_clashesWith_52 {p : Program} {l : Launch} {e : Env} {s : State} {m : MethodId} {args : Array Value} {below : List Frame} {meth : Method} {c : Code} {D : va_G} {ca : Nat → ClassId} {ad : Nat → Nat → Nat} {b0 : Nat} {o : Int32 × oa_M} (C : oa_Cx p s m args meth c cX0_clashesWith 3 (some .boolean) RX0 D ca b0 ad) : ∀ (n : Nat), ∀ (n0 : Nat) (hn0 : n0 < oa_n 5) (n1 : Nat) (hn1 : n1 < oa_n 5) (x2 : Int32) (M : oa_M), BX0_clashesWith_52 n n0 n1 x2 M = some o → ∀ (H : Heap) (locs : List Loc), oa_H D ca ad M H → va_S (fun q => b0 ≤ q) s.heap H locs → ∀ (ls : Array Slot), lv_has ls 3 [(0, .ref (ad 5 n0)), (1, .ref (ad 5 n1)), (2, .int x2)] → W p l e ({ frames := 2, cells := 0, slots := 0, locals := 43 } : Room) s m args below meth c H locs 0 0 (MQ below (va_Qi (fun (r' : Int32) (u : oa_M) => r' = o.1 ∧ u = o.2) (fun u t => oa_H D ca ad u t.heap) (fun q => b0 ≤ q)) args s 0 0 (fun q => b0 ≤ q)) (F0 m 52 ls []) := by
  obtain ⟨hx, hb, hml, hr, hlocks, hown, hts, hE, hw⟩ := id C
  intro n n0 hn0 n1 hn1 x2 M hf H locs hH hS ls hl
  unfold BX0_clashesWith_52 at hf
  refine lv_iconst (v := (0 : Int32)) hx hb dX0_clashesWith_52 (by decide) ?_
  exact bX0_clashesWith_53 C n n0 hn0 n1 hn1 x2 (0 : Int32) _ hf _ _ hH hS _ (lv_sub hl [0, 1, 2] rfl)
set_option maxHeartbeats 4000000 in
set_option maxRecDepth 100000 in
theorem bX0_clashesWith_27 {p : Program} {l : Launch} {e : Env} {s : State} {m : MethodId} {args : Array Value} {below : List Frame} {meth : Method} {c : Code} {D : va_G} {ca : Nat → ClassId} {ad : Nat → Nat → Nat} {b0 : Nat} {o : Int32 × oa_M} (C : oa_Cx p s m args meth c cX0_clashesWith 3 (some .boolean) RX0 D ca b0 ad) : ∀ (n : Nat), ∀ (n0 : Nat) (hn0 : n0 < oa_n 5) (n1 : Nat) (hn1 : n1 < oa_n 5) (z0 : Int32) (M : oa_M), BX0_clashesWith_27 n n0 n1 z0 M = some o → ∀ (H : Heap) (locs : List Loc), oa_H D ca ad M H → va_S (fun q => b0 ≤ q) s.heap H locs → ∀ (ls : Array Slot), lv_has ls 3 [(0, .ref (ad 5 n0)), (1, .ref (ad 5 n1))] → W p l e ({ frames := 2, cells := 0, slots := 0, locals := 43 } : Room) s m args below meth c H locs 0 0 (MQ below (va_Qi (fun (r' : Int32) (u : oa_M) => r' = o.1 ∧ u = o.2) (fun u t => oa_H D ca ad u t.heap) (fun q => b0 ≤ q)) args s 0 0 (fun q => b0 ≤ q)) (F0 m 27 ls [.int z0]) := by
  obtain ⟨hx, hb, hml, hr, hlocks, hown, hts, hE, hw⟩ := id C
  intro n n0 hn0 n1 hn1 z0 M hf H locs hH hS ls hl
  unfold BX0_clashesWith_27 at hf
  refine lv_istore_n (lv' := [(2, .int z0), (0, .ref (ad 5 n0)), (1, .ref (ad 5 n1))]) hx hb dX0_clashesWith_27 rfl hl (by decide) rfl (fun ls hl => ?_)
  refine lv_iload_n hx hb dX0_clashesWith_28 rfl (lv_at hl 0 rfl) ?_
  refine lv_if_ne (tgt := 52) hx hb dX0_clashesWith_29 (by decide) (fun hq1 => ?_) (fun hq1 => ?_)
  · rw [if_neg hq1] at hf
    exact bX0_clashesWith_52 C n n0 hn0 n1 hn1 z0 _ hf _ _ hH hS _ (lv_sub hl [1, 2, 0] rfl)
  · rw [if_pos hq1] at hf
    refine lv_aload_n hx hb dX0_clashesWith_32 rfl (lv_at hl 1 rfl) ?_
    refine lv_aload_n hx hb dX0_clashesWith_33 rfl (lv_at hl 2 rfl) ?_
    obtain ⟨r2, M3, hc4, hf⟩ := oa_bdE hf
    refine oa_cvi (As := [.ref (ad 5 n1)]) (rest := []) ⟨hx, hb, hml, hown, hts⟩ (cX0_isNarrowerThan_ok l D ca ad b0 hw n n0 hn0 n1 hn1 _ _ _ hc4) (cwV 1 hts (oa_gV tw_215 tw_216 tw_217 tw_46 tw_218) rfl rfl rfl (by decide +kernel) ⟨Nat.le_of_ble_eq_true rfl, Nat.le_of_ble_eq_true rfl⟩) hE hH hS (oa_recv (k := 5) (ci := 0) hE hH hn0 rfl rfl) rfl hl.1 rfl (Nat.le_of_ble_eq_true rfl) dX0_clashesWith_34 ⟨by decide, by decide⟩ (fun H locs hH hS => ?_)
    refine lv_if_ne (tgt := 52) hx hb dX0_clashesWith_37 (by decide) (fun hq5 => ?_) (fun hq5 => ?_)
    · rw [if_neg hq5] at hf
      exact bX0_clashesWith_52 C n n0 hn0 n1 hn1 z0 _ hf _ _ hH hS _ (lv_sub hl [1, 2, 0] rfl)
    · rw [if_pos hq5] at hf
      refine lv_aload_n hx hb dX0_clashesWith_40 rfl (lv_at hl 2 rfl) ?_
      refine lv_aload_n hx hb dX0_clashesWith_41 rfl (lv_at hl 1 rfl) ?_
      obtain ⟨r6, M7, hc8, hf⟩ := oa_bdE hf
      refine oa_cvi (As := [.ref (ad 5 n0)]) (rest := []) ⟨hx, hb, hml, hown, hts⟩ (cX0_isNarrowerThan_ok l D ca ad b0 hw n n1 hn1 n0 hn0 _ _ _ hc8) (cwV 1 hts (oa_gV tw_215 tw_216 tw_217 tw_46 tw_218) rfl rfl rfl (by decide +kernel) ⟨Nat.le_of_ble_eq_true rfl, Nat.le_of_ble_eq_true rfl⟩) hE hH hS (oa_recv (k := 5) (ci := 0) hE hH hn1 rfl rfl) rfl hl.1 rfl (Nat.le_of_ble_eq_true rfl) dX0_clashesWith_42 ⟨by decide, by decide⟩ (fun H locs hH hS => ?_)
      refine lv_if_ne (tgt := 52) hx hb dX0_clashesWith_45 (by decide) (fun hq9 => ?_) (fun hq9 => ?_)
      · rw [if_neg hq9] at hf
        exact bX0_clashesWith_52 C n n0 hn0 n1 hn1 z0 _ hf _ _ hH hS _ (lv_sub hl [1, 2, 0] rfl)
      · rw [if_pos hq9] at hf
        refine lv_iconst (v := (1 : Int32)) hx hb dX0_clashesWith_48 (by decide) ?_
        refine lv_goto (tgt := 53) hx hb dX0_clashesWith_49 (by decide) ?_
        exact bX0_clashesWith_53 C n n0 hn0 n1 hn1 z0 (1 : Int32) _ hf _ _ hH hS _ (lv_sub hl [1, 2, 0] rfl)
set_option maxHeartbeats 4000000 in
set_option maxRecDepth 100000 in
theorem cX0_clashesWith_k (l : Launch) (D : va_G) (ca : Nat → ClassId) (ad : Nat → Nat → Nat) (b0 : Nat) (hw : oa_W ad b0) (n : Nat) (n0 : Nat) (hn0 : n0 < oa_n 5) (n1 : Nat) (hn1 : n1 < oa_n 5) (M : oa_M) (o : Int32 × oa_M) (hf : FX0_clashesWith n n0 n1 M = some o) : oa_Mi l yX0_clashesWith (oa_w yX0_clashesWith cX0_clashesWith 3 (some .boolean)) ({ frames := 2, cells := 0, slots := 0, locals := 43 } : Room) D ca ad b0 [.ref (ad 5 n0), .ref (ad 5 n1)] M o.1 o.2 := by
  refine oa_ofW (cc := cX0_clashesWith) (maxL := 3) (ret := some .boolean) (by decide) rfl (Nat.le_of_ble_eq_true rfl) ?_
  intro p e s m below meth c hx hb hml hr hlocks hown hts0 hP ls hl
  obtain ⟨hH, hE⟩ := hP
  have hts : ∀ w ∈ oa_T, w.before _ s = true := fun w h => hts0 w (List.mem_cons_of_mem _ h)
  have hS : va_S (fun q => b0 ≤ q) s.heap s.heap [] := va_S.rf
  have C : oa_Cx p s m _ meth c cX0_clashesWith 3 (some .boolean) RX0 D ca b0 ad := ⟨hx, hb, hml, hr, hlocks, hown, hts, hE, hw⟩
  have hl : lv_has ls 3 [(0, .ref (ad 5 n0)), (1, .ref (ad 5 n1))] := hl
  unfold FX0_clashesWith at hf
  refine lv_aload_n hx hb dX0_clashesWith_0 rfl (lv_at hl 0 rfl) ?_
  refine oa_get (ci := 0) (C := RX0) (T := TX0) (N := 6) (v := .int (M 5 n0 3)) hx hb hts inX0 hown hE hH 5 n0 hn0 rfl rfl 3 (by decide) (hts _ tw_122) rfl dX0_clashesWith_1 ?_
  refine lv_aload_n hx hb dX0_clashesWith_4 rfl (lv_at hl 1 rfl) ?_
  refine oa_get (ci := 0) (C := RX0) (T := TX0) (N := 6) (v := .int (M 5 n1 3)) hx hb hts inX0 hown hE hH 5 n1 hn1 rfl rfl 3 (by decide) (hts _ tw_122) rfl dX0_clashesWith_5 ?_
  refine lv_iand hx hb dX0_clashesWith_8 ?_
  refine lv_aload_n hx hb dX0_clashesWith_9 rfl (lv_at hl 0 rfl) ?_
  refine oa_get (ci := 0) (C := RX0) (T := TX0) (N := 6) (v := .int (M 5 n0 4)) hx hb hts inX0 hown hE hH 5 n0 hn0 rfl rfl 4 (by decide) (hts _ tw_123) rfl dX0_clashesWith_10 ?_
  refine lv_aload_n hx hb dX0_clashesWith_13 rfl (lv_at hl 1 rfl) ?_
  refine oa_get (ci := 0) (C := RX0) (T := TX0) (N := 6) (v := .int (M 5 n1 4)) hx hb hts inX0 hown hE hH 5 n1 hn1 rfl rfl 4 (by decide) (hts _ tw_123) rfl dX0_clashesWith_14 ?_
  refine lv_ixor hx hb dX0_clashesWith_17 ?_
  refine lv_iand hx hb dX0_clashesWith_18 ?_
  refine lv_if_eq (tgt := 26) hx hb dX0_clashesWith_19 (by decide) (fun hq1 => ?_) (fun hq1 => ?_)
  · rw [if_pos hq1] at hf
    refine lv_iconst (v := (0 : Int32)) hx hb dX0_clashesWith_26 (by decide) ?_
    exact bX0_clashesWith_27 C n n0 hn0 n1 hn1 (0 : Int32) _ hf _ _ hH hS _ (lv_sub hl [0, 1] rfl)
  · rw [if_neg hq1] at hf
    refine lv_iconst (v := (1 : Int32)) hx hb dX0_clashesWith_22 (by decide) ?_
    refine lv_goto (tgt := 27) hx hb dX0_clashesWith_23 (by decide) ?_
    exact bX0_clashesWith_27 C n n0 hn0 n1 hn1 (1 : Int32) _ hf _ _ hH hS _ (lv_sub hl [0, 1] rfl)
theorem cX0_clashesWith_ok (l : Launch) (D : va_G) (ca : Nat → ClassId) (ad : Nat → Nat → Nat) (b0 : Nat) (hw : oa_W ad b0) (n : Nat) (n0 : Nat) (hn0 : n0 < oa_n 5) (n1 : Nat) (hn1 : n1 < oa_n 5) (M : oa_M) (r : Int32) (M' : oa_M) (hf : FX0_clashesWith n n0 n1 M = some (r, M')) : oa_Mi l yX0_clashesWith (oa_w yX0_clashesWith cX0_clashesWith 3 (some .boolean)) ({ frames := 2, cells := 0, slots := 0, locals := 43 } : Room) D ca ad b0 [.ref (ad 5 n0), .ref (ad 5 n1)] M r M' := cX0_clashesWith_k l D ca ad b0 hw n n0 hn0 n1 hn1 M (r, M') hf
end
