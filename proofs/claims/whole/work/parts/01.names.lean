-- ===== PART A: goes FIRST, ahead of the names: the tables' words, and 'selects' of the private methods out of them =====
/-- a private method of a class that the tables say can be made, by its rows of tables_1 -/
def lw_okq (q : MethodName × Nat) : Prop := (q.1.cls ≠ "java/lang/invoke/MethodHandle" ∧ q.1.cls ≠ "java/lang/invoke/VarHandle") ∧ Cond.instantiable q.1.cls q.2 ∈ tables_1 ∧ Cond.privateMethod q.1 ∈ tables_1 ∧ Cond.instanceMethod q.1 ∈ tables_1
theorem lw_p0 : lw_okq (⟨"OpcodeForge$Names", "reserve", "(Ljava/lang/String;I)I"⟩, 7) := ⟨⟨by decide +kernel, by decide +kernel⟩, List.mem_of_getElem? (i := 44) (by decide +kernel), List.mem_of_getElem? (i := 51) (by decide +kernel), List.mem_of_getElem? (i := 52) (by decide +kernel)⟩
theorem lw_p1 : lw_okq (⟨"OpcodeForge$Conditions", "latest", "()I"⟩, 2) := ⟨⟨by decide +kernel, by decide +kernel⟩, List.mem_of_getElem? (i := 294) (by decide +kernel), List.mem_of_getElem? (i := 609) (by decide +kernel), List.mem_of_getElem? (i := 610) (by decide +kernel)⟩
theorem lw_p2 : lw_okq (⟨"OpcodeForge$Tokens", "takeToken", "(I)I"⟩, 7) := ⟨⟨by decide +kernel, by decide +kernel⟩, List.mem_of_getElem? (i := 307) (by decide +kernel), List.mem_of_getElem? (i := 621) (by decide +kernel), List.mem_of_getElem? (i := 622) (by decide +kernel)⟩
theorem lw_p3 : lw_okq (⟨"OpcodeForge$Tokens", "takeName", "(I)I"⟩, 7) := ⟨⟨by decide +kernel, by decide +kernel⟩, List.mem_of_getElem? (i := 307) (by decide +kernel), List.mem_of_getElem? (i := 629) (by decide +kernel), List.mem_of_getElem? (i := 630) (by decide +kernel)⟩
theorem lw_p4 : lw_okq (⟨"OpcodeForge$Tokens", "nameEnd", "(I)I"⟩, 7) := ⟨⟨by decide +kernel, by decide +kernel⟩, List.mem_of_getElem? (i := 307) (by decide +kernel), List.mem_of_getElem? (i := 633) (by decide +kernel), List.mem_of_getElem? (i := 634) (by decide +kernel)⟩
theorem lw_p5 : lw_okq (⟨"OpcodeForge$Tokens", "keyOf", "(II)J"⟩, 7) := ⟨⟨by decide +kernel, by decide +kernel⟩, List.mem_of_getElem? (i := 307) (by decide +kernel), List.mem_of_getElem? (i := 638) (by decide +kernel), List.mem_of_getElem? (i := 639) (by decide +kernel)⟩
theorem lw_p6 : lw_okq (⟨"OpcodeForge$Tokens", "append", "(IIJ)V"⟩, 7) := ⟨⟨by decide +kernel, by decide +kernel⟩, List.mem_of_getElem? (i := 307) (by decide +kernel), List.mem_of_getElem? (i := 643) (by decide +kernel), List.mem_of_getElem? (i := 644) (by decide +kernel)⟩
theorem lw_p7 : lw_okq (⟨"OpcodeForge$Tokens", "takeNumber", "(III)I"⟩, 7) := ⟨⟨by decide +kernel, by decide +kernel⟩, List.mem_of_getElem? (i := 307) (by decide +kernel), List.mem_of_getElem? (i := 647) (by decide +kernel), List.mem_of_getElem? (i := 648) (by decide +kernel)⟩
theorem lw_p8 : lw_okq (⟨"OpcodeForge$Tokens", "digitAt", "(I)I"⟩, 7) := ⟨⟨by decide +kernel, by decide +kernel⟩, List.mem_of_getElem? (i := 307) (by decide +kernel), List.mem_of_getElem? (i := 651) (by decide +kernel), List.mem_of_getElem? (i := 652) (by decide +kernel)⟩
theorem lw_p9 : lw_okq (⟨"OpcodeForge$Tokens", "takeQuoted", "(I)I"⟩, 7) := ⟨⟨by decide +kernel, by decide +kernel⟩, List.mem_of_getElem? (i := 307) (by decide +kernel), List.mem_of_getElem? (i := 659) (by decide +kernel), List.mem_of_getElem? (i := 660) (by decide +kernel)⟩
theorem lw_p10 : lw_okq (⟨"OpcodeForge$Tokens", "takeText", "(I)I"⟩, 7) := ⟨⟨by decide +kernel, by decide +kernel⟩, List.mem_of_getElem? (i := 307) (by decide +kernel), List.mem_of_getElem? (i := 663) (by decide +kernel), List.mem_of_getElem? (i := 664) (by decide +kernel)⟩
theorem lw_p11 : lw_okq (⟨"OpcodeForge$Forger", "tellLabel", "()I"⟩, 17) := ⟨⟨by decide +kernel, by decide +kernel⟩, List.mem_of_getElem? (i := 272) (by decide +kernel), List.mem_of_getElem? (i := 723) (by decide +kernel), List.mem_of_getElem? (i := 724) (by decide +kernel)⟩
theorem lw_p12 : lw_okq (⟨"OpcodeForge$Forger", "canTell", "(I)Z"⟩, 17) := ⟨⟨by decide +kernel, by decide +kernel⟩, List.mem_of_getElem? (i := 272) (by decide +kernel), List.mem_of_getElem? (i := 731) (by decide +kernel), List.mem_of_getElem? (i := 732) (by decide +kernel)⟩
theorem lw_p13 : lw_okq (⟨"OpcodeForge$Forger", "tell", "(II)V"⟩, 17) := ⟨⟨by decide +kernel, by decide +kernel⟩, List.mem_of_getElem? (i := 272) (by decide +kernel), List.mem_of_getElem? (i := 759) (by decide +kernel), List.mem_of_getElem? (i := 760) (by decide +kernel)⟩
theorem lw_p14 : lw_okq (⟨"OpcodeForge$Forger", "readStatement", "(I)V"⟩, 17) := ⟨⟨by decide +kernel, by decide +kernel⟩, List.mem_of_getElem? (i := 272) (by decide +kernel), List.mem_of_getElem? (i := 767) (by decide +kernel), List.mem_of_getElem? (i := 768) (by decide +kernel)⟩
theorem lw_p15 : lw_okq (⟨"OpcodeForge$Forger", "equate", "(I)V"⟩, 17) := ⟨⟨by decide +kernel, by decide +kernel⟩, List.mem_of_getElem? (i := 272) (by decide +kernel), List.mem_of_getElem? (i := 777) (by decide +kernel), List.mem_of_getElem? (i := 778) (by decide +kernel)⟩
def lw_privs_1 : List (MethodName × Nat) := [(⟨"OpcodeForge$Names", "reserve", "(Ljava/lang/String;I)I"⟩, 7), (⟨"OpcodeForge$Conditions", "latest", "()I"⟩, 2), (⟨"OpcodeForge$Tokens", "takeToken", "(I)I"⟩, 7), (⟨"OpcodeForge$Tokens", "takeName", "(I)I"⟩, 7), (⟨"OpcodeForge$Tokens", "nameEnd", "(I)I"⟩, 7), (⟨"OpcodeForge$Tokens", "keyOf", "(II)J"⟩, 7), (⟨"OpcodeForge$Tokens", "append", "(IIJ)V"⟩, 7), (⟨"OpcodeForge$Tokens", "takeNumber", "(III)I"⟩, 7), (⟨"OpcodeForge$Tokens", "digitAt", "(I)I"⟩, 7), (⟨"OpcodeForge$Tokens", "takeQuoted", "(I)I"⟩, 7), (⟨"OpcodeForge$Tokens", "takeText", "(I)I"⟩, 7), (⟨"OpcodeForge$Forger", "tellLabel", "()I"⟩, 17), (⟨"OpcodeForge$Forger", "canTell", "(I)Z"⟩, 17), (⟨"OpcodeForge$Forger", "tell", "(II)V"⟩, 17), (⟨"OpcodeForge$Forger", "readStatement", "(I)V"⟩, 17), (⟨"OpcodeForge$Forger", "equate", "(I)V"⟩, 17)]
theorem lw_r1 : ∀ q ∈ lw_privs_1, lw_okq q := List.forall_mem_cons.mpr ⟨lw_p0, List.forall_mem_cons.mpr ⟨lw_p1, List.forall_mem_cons.mpr ⟨lw_p2, List.forall_mem_cons.mpr ⟨lw_p3, List.forall_mem_cons.mpr ⟨lw_p4, List.forall_mem_cons.mpr ⟨lw_p5, List.forall_mem_cons.mpr ⟨lw_p6, List.forall_mem_cons.mpr ⟨lw_p7, List.forall_mem_cons.mpr ⟨lw_p8, List.forall_mem_cons.mpr ⟨lw_p9, List.forall_mem_cons.mpr ⟨lw_p10, List.forall_mem_cons.mpr ⟨lw_p11, List.forall_mem_cons.mpr ⟨lw_p12, List.forall_mem_cons.mpr ⟨lw_p13, List.forall_mem_cons.mpr ⟨lw_p14, List.forall_mem_cons.mpr ⟨lw_p15, fun _ h => absurd h List.not_mem_nil⟩⟩⟩⟩⟩⟩⟩⟩⟩⟩⟩⟩⟩⟩⟩⟩
theorem lw_p16 : lw_okq (⟨"OpcodeForge$Expression", "begin", "(I)V"⟩, 13) := ⟨⟨by decide +kernel, by decide +kernel⟩, List.mem_of_getElem? (i := 335) (by decide +kernel), List.mem_of_getElem? (i := 785) (by decide +kernel), List.mem_of_getElem? (i := 786) (by decide +kernel)⟩
theorem lw_p17 : lw_okq (⟨"OpcodeForge$Expression", "open", "(II)Z"⟩, 13) := ⟨⟨by decide +kernel, by decide +kernel⟩, List.mem_of_getElem? (i := 335) (by decide +kernel), List.mem_of_getElem? (i := 797) (by decide +kernel), List.mem_of_getElem? (i := 798) (by decide +kernel)⟩
theorem lw_p18 : lw_okq (⟨"OpcodeForge$Expression", "hold", "(II)V"⟩, 13) := ⟨⟨by decide +kernel, by decide +kernel⟩, List.mem_of_getElem? (i := 335) (by decide +kernel), List.mem_of_getElem? (i := 801) (by decide +kernel), List.mem_of_getElem? (i := 802) (by decide +kernel)⟩
theorem lw_p19 : lw_okq (⟨"OpcodeForge$Expression", "takeValue", "(II)Z"⟩, 13) := ⟨⟨by decide +kernel, by decide +kernel⟩, List.mem_of_getElem? (i := 335) (by decide +kernel), List.mem_of_getElem? (i := 805) (by decide +kernel), List.mem_of_getElem? (i := 806) (by decide +kernel)⟩
theorem lw_p20 : lw_okq (⟨"OpcodeForge$Expression", "settle", "(I)V"⟩, 13) := ⟨⟨by decide +kernel, by decide +kernel⟩, List.mem_of_getElem? (i := 335) (by decide +kernel), List.mem_of_getElem? (i := 816) (by decide +kernel), List.mem_of_getElem? (i := 817) (by decide +kernel)⟩
theorem lw_p21 : lw_okq (⟨"OpcodeForge$Expression", "turn", "(I)V"⟩, 13) := ⟨⟨by decide +kernel, by decide +kernel⟩, List.mem_of_getElem? (i := 335) (by decide +kernel), List.mem_of_getElem? (i := 820) (by decide +kernel), List.mem_of_getElem? (i := 821) (by decide +kernel)⟩
theorem lw_p22 : lw_okq (⟨"OpcodeForge$Expression", "join", "(II)V"⟩, 13) := ⟨⟨by decide +kernel, by decide +kernel⟩, List.mem_of_getElem? (i := 335) (by decide +kernel), List.mem_of_getElem? (i := 824) (by decide +kernel), List.mem_of_getElem? (i := 825) (by decide +kernel)⟩
theorem lw_p23 : lw_okq (⟨"OpcodeForge$Expression", "close", "()V"⟩, 13) := ⟨⟨by decide +kernel, by decide +kernel⟩, List.mem_of_getElem? (i := 335) (by decide +kernel), List.mem_of_getElem? (i := 828) (by decide +kernel), List.mem_of_getElem? (i := 829) (by decide +kernel)⟩
theorem lw_p24 : lw_okq (⟨"OpcodeForge$Forger", "endsLine", "(I)Z"⟩, 17) := ⟨⟨by decide +kernel, by decide +kernel⟩, List.mem_of_getElem? (i := 272) (by decide +kernel), List.mem_of_getElem? (i := 834) (by decide +kernel), List.mem_of_getElem? (i := 835) (by decide +kernel)⟩
theorem lw_p25 : lw_okq (⟨"OpcodeForge$Forger", "instruction", "(II)V"⟩, 17) := ⟨⟨by decide +kernel, by decide +kernel⟩, List.mem_of_getElem? (i := 272) (by decide +kernel), List.mem_of_getElem? (i := 842) (by decide +kernel), List.mem_of_getElem? (i := 843) (by decide +kernel)⟩
theorem lw_p26 : lw_okq (⟨"OpcodeForge$Operands", "closing", "(I)I"⟩, 9) := ⟨⟨by decide +kernel, by decide +kernel⟩, List.mem_of_getElem? (i := 382) (by decide +kernel), List.mem_of_getElem? (i := 854) (by decide +kernel), List.mem_of_getElem? (i := 855) (by decide +kernel)⟩
theorem lw_p27 : lw_okq (⟨"OpcodeForge$Operands", "classify", "(II)I"⟩, 9) := ⟨⟨by decide +kernel, by decide +kernel⟩, List.mem_of_getElem? (i := 382) (by decide +kernel), List.mem_of_getElem? (i := 864) (by decide +kernel), List.mem_of_getElem? (i := 865) (by decide +kernel)⟩
theorem lw_p28 : lw_okq (⟨"OpcodeForge$Shapes", "shapeAt", "(I)I"⟩, 3) := ⟨⟨by decide +kernel, by decide +kernel⟩, List.mem_of_getElem? (i := 156) (by decide +kernel), List.mem_of_getElem? (i := 893) (by decide +kernel), List.mem_of_getElem? (i := 894) (by decide +kernel)⟩
theorem lw_p29 : lw_okq (⟨"OpcodeForge$Forger", "checkOperands", "(II)V"⟩, 17) := ⟨⟨by decide +kernel, by decide +kernel⟩, List.mem_of_getElem? (i := 272) (by decide +kernel), List.mem_of_getElem? (i := 911) (by decide +kernel), List.mem_of_getElem? (i := 912) (by decide +kernel)⟩
theorem lw_p30 : lw_okq (⟨"OpcodeForge$Forger", "distance", "(II)I"⟩, 17) := ⟨⟨by decide +kernel, by decide +kernel⟩, List.mem_of_getElem? (i := 272) (by decide +kernel), List.mem_of_getElem? (i := 924) (by decide +kernel), List.mem_of_getElem? (i := 925) (by decide +kernel)⟩
theorem lw_p31 : lw_okq (⟨"OpcodeForge$Forger", "putInstruction", "(II)V"⟩, 17) := ⟨⟨by decide +kernel, by decide +kernel⟩, List.mem_of_getElem? (i := 272) (by decide +kernel), List.mem_of_getElem? (i := 940) (by decide +kernel), List.mem_of_getElem? (i := 941) (by decide +kernel)⟩
def lw_privs_2 : List (MethodName × Nat) := [(⟨"OpcodeForge$Expression", "begin", "(I)V"⟩, 13), (⟨"OpcodeForge$Expression", "open", "(II)Z"⟩, 13), (⟨"OpcodeForge$Expression", "hold", "(II)V"⟩, 13), (⟨"OpcodeForge$Expression", "takeValue", "(II)Z"⟩, 13), (⟨"OpcodeForge$Expression", "settle", "(I)V"⟩, 13), (⟨"OpcodeForge$Expression", "turn", "(I)V"⟩, 13), (⟨"OpcodeForge$Expression", "join", "(II)V"⟩, 13), (⟨"OpcodeForge$Expression", "close", "()V"⟩, 13), (⟨"OpcodeForge$Forger", "endsLine", "(I)Z"⟩, 17), (⟨"OpcodeForge$Forger", "instruction", "(II)V"⟩, 17), (⟨"OpcodeForge$Operands", "closing", "(I)I"⟩, 9), (⟨"OpcodeForge$Operands", "classify", "(II)I"⟩, 9), (⟨"OpcodeForge$Shapes", "shapeAt", "(I)I"⟩, 3), (⟨"OpcodeForge$Forger", "checkOperands", "(II)V"⟩, 17), (⟨"OpcodeForge$Forger", "distance", "(II)I"⟩, 17), (⟨"OpcodeForge$Forger", "putInstruction", "(II)V"⟩, 17)]
theorem lw_r2 : ∀ q ∈ lw_privs_2, lw_okq q := List.forall_mem_cons.mpr ⟨lw_p16, List.forall_mem_cons.mpr ⟨lw_p17, List.forall_mem_cons.mpr ⟨lw_p18, List.forall_mem_cons.mpr ⟨lw_p19, List.forall_mem_cons.mpr ⟨lw_p20, List.forall_mem_cons.mpr ⟨lw_p21, List.forall_mem_cons.mpr ⟨lw_p22, List.forall_mem_cons.mpr ⟨lw_p23, List.forall_mem_cons.mpr ⟨lw_p24, List.forall_mem_cons.mpr ⟨lw_p25, List.forall_mem_cons.mpr ⟨lw_p26, List.forall_mem_cons.mpr ⟨lw_p27, List.forall_mem_cons.mpr ⟨lw_p28, List.forall_mem_cons.mpr ⟨lw_p29, List.forall_mem_cons.mpr ⟨lw_p30, List.forall_mem_cons.mpr ⟨lw_p31, fun _ h => absurd h List.not_mem_nil⟩⟩⟩⟩⟩⟩⟩⟩⟩⟩⟩⟩⟩⟩⟩⟩
theorem lw_p32 : lw_okq (⟨"OpcodeForge$Forger", "putNumber", "(III)V"⟩, 17) := ⟨⟨by decide +kernel, by decide +kernel⟩, List.mem_of_getElem? (i := 272) (by decide +kernel), List.mem_of_getElem? (i := 947) (by decide +kernel), List.mem_of_getElem? (i := 948) (by decide +kernel)⟩
theorem lw_p33 : lw_okq (⟨"OpcodeForge$Forger", "count", "(II)V"⟩, 17) := ⟨⟨by decide +kernel, by decide +kernel⟩, List.mem_of_getElem? (i := 272) (by decide +kernel), List.mem_of_getElem? (i := 956) (by decide +kernel), List.mem_of_getElem? (i := 957) (by decide +kernel)⟩
theorem lw_p34 : lw_okq (⟨"OpcodeForge$Forger", "goOn", "(II)V"⟩, 17) := ⟨⟨by decide +kernel, by decide +kernel⟩, List.mem_of_getElem? (i := 272) (by decide +kernel), List.mem_of_getElem? (i := 964) (by decide +kernel), List.mem_of_getElem? (i := 965) (by decide +kernel)⟩
theorem lw_p35 : lw_okq (⟨"OpcodeForge$Forger", "origin", "(I)V"⟩, 17) := ⟨⟨by decide +kernel, by decide +kernel⟩, List.mem_of_getElem? (i := 272) (by decide +kernel), List.mem_of_getElem? (i := 969) (by decide +kernel), List.mem_of_getElem? (i := 970) (by decide +kernel)⟩
theorem lw_p36 : lw_okq (⟨"OpcodeForge$Forger", "readNumber", "(IIII)I"⟩, 17) := ⟨⟨by decide +kernel, by decide +kernel⟩, List.mem_of_getElem? (i := 272) (by decide +kernel), List.mem_of_getElem? (i := 973) (by decide +kernel), List.mem_of_getElem? (i := 974) (by decide +kernel)⟩
theorem lw_p37 : lw_okq (⟨"OpcodeForge$Forger", "data", "(IZ)V"⟩, 17) := ⟨⟨by decide +kernel, by decide +kernel⟩, List.mem_of_getElem? (i := 272) (by decide +kernel), List.mem_of_getElem? (i := 978) (by decide +kernel), List.mem_of_getElem? (i := 979) (by decide +kernel)⟩
theorem lw_p38 : lw_okq (⟨"OpcodeForge$Forger", "putText", "(II)V"⟩, 17) := ⟨⟨by decide +kernel, by decide +kernel⟩, List.mem_of_getElem? (i := 272) (by decide +kernel), List.mem_of_getElem? (i := 982) (by decide +kernel), List.mem_of_getElem? (i := 983) (by decide +kernel)⟩
theorem lw_p39 : lw_okq (⟨"OpcodeForge$Forger", "space", "(I)V"⟩, 17) := ⟨⟨by decide +kernel, by decide +kernel⟩, List.mem_of_getElem? (i := 272) (by decide +kernel), List.mem_of_getElem? (i := 988) (by decide +kernel), List.mem_of_getElem? (i := 989) (by decide +kernel)⟩
theorem lw_p40 : lw_okq (⟨"OpcodeForge$Forger", "condition", "(II)V"⟩, 17) := ⟨⟨by decide +kernel, by decide +kernel⟩, List.mem_of_getElem? (i := 272) (by decide +kernel), List.mem_of_getElem? (i := 1002) (by decide +kernel), List.mem_of_getElem? (i := 1003) (by decide +kernel)⟩
theorem lw_p41 : lw_okq (⟨"OpcodeForge$Conditions", "change", "(I)V"⟩, 2) := ⟨⟨by decide +kernel, by decide +kernel⟩, List.mem_of_getElem? (i := 294) (by decide +kernel), List.mem_of_getElem? (i := 1016) (by decide +kernel), List.mem_of_getElem? (i := 1017) (by decide +kernel)⟩
theorem lw_p42 : lw_okq (⟨"OpcodeForge$Forger", "passOver", "(I)V"⟩, 17) := ⟨⟨by decide +kernel, by decide +kernel⟩, List.mem_of_getElem? (i := 272) (by decide +kernel), List.mem_of_getElem? (i := 1020) (by decide +kernel), List.mem_of_getElem? (i := 1021) (by decide +kernel)⟩
theorem lw_p43 : lw_okq (⟨"OpcodeForge$Tokens", "skipBlanks", "(I)I"⟩, 7) := ⟨⟨by decide +kernel, by decide +kernel⟩, List.mem_of_getElem? (i := 307) (by decide +kernel), List.mem_of_getElem? (i := 1028) (by decide +kernel), List.mem_of_getElem? (i := 1029) (by decide +kernel)⟩
theorem lw_p44 : lw_okq (⟨"OpcodeForge$Instruction", "numberOf", "(II)I"⟩, 11) := ⟨⟨by decide +kernel, by decide +kernel⟩, List.mem_of_getElem? (i := 232) (by decide +kernel), List.mem_of_getElem? (i := 1121) (by decide +kernel), List.mem_of_getElem? (i := 1122) (by decide +kernel)⟩
theorem lw_p45 : lw_okq (⟨"OpcodeForge$Instruction", "appendOperand", "(LOpcodeForge$Text;I)V"⟩, 11) := ⟨⟨by decide +kernel, by decide +kernel⟩, List.mem_of_getElem? (i := 232) (by decide +kernel), List.mem_of_getElem? (i := 1143) (by decide +kernel), List.mem_of_getElem? (i := 1144) (by decide +kernel)⟩
theorem lw_p46 : lw_okq (⟨"OpcodeForge$Machine", "takeRequest", "()V"⟩, 10) := ⟨⟨by decide +kernel, by decide +kernel⟩, List.mem_of_getElem? (i := 468) (by decide +kernel), List.mem_of_getElem? (i := 1246) (by decide +kernel), List.mem_of_getElem? (i := 1247) (by decide +kernel)⟩
theorem lw_p47 : lw_okq (⟨"OpcodeForge$Machine", "refresh", "(I)V"⟩, 10) := ⟨⟨by decide +kernel, by decide +kernel⟩, List.mem_of_getElem? (i := 468) (by decide +kernel), List.mem_of_getElem? (i := 1250) (by decide +kernel), List.mem_of_getElem? (i := 1251) (by decide +kernel)⟩
def lw_privs_3 : List (MethodName × Nat) := [(⟨"OpcodeForge$Forger", "putNumber", "(III)V"⟩, 17), (⟨"OpcodeForge$Forger", "count", "(II)V"⟩, 17), (⟨"OpcodeForge$Forger", "goOn", "(II)V"⟩, 17), (⟨"OpcodeForge$Forger", "origin", "(I)V"⟩, 17), (⟨"OpcodeForge$Forger", "readNumber", "(IIII)I"⟩, 17), (⟨"OpcodeForge$Forger", "data", "(IZ)V"⟩, 17), (⟨"OpcodeForge$Forger", "putText", "(II)V"⟩, 17), (⟨"OpcodeForge$Forger", "space", "(I)V"⟩, 17), (⟨"OpcodeForge$Forger", "condition", "(II)V"⟩, 17), (⟨"OpcodeForge$Conditions", "change", "(I)V"⟩, 2), (⟨"OpcodeForge$Forger", "passOver", "(I)V"⟩, 17), (⟨"OpcodeForge$Tokens", "skipBlanks", "(I)I"⟩, 7), (⟨"OpcodeForge$Instruction", "numberOf", "(II)I"⟩, 11), (⟨"OpcodeForge$Instruction", "appendOperand", "(LOpcodeForge$Text;I)V"⟩, 11), (⟨"OpcodeForge$Machine", "takeRequest", "()V"⟩, 10), (⟨"OpcodeForge$Machine", "refresh", "(I)V"⟩, 10)]
theorem lw_r3 : ∀ q ∈ lw_privs_3, lw_okq q := List.forall_mem_cons.mpr ⟨lw_p32, List.forall_mem_cons.mpr ⟨lw_p33, List.forall_mem_cons.mpr ⟨lw_p34, List.forall_mem_cons.mpr ⟨lw_p35, List.forall_mem_cons.mpr ⟨lw_p36, List.forall_mem_cons.mpr ⟨lw_p37, List.forall_mem_cons.mpr ⟨lw_p38, List.forall_mem_cons.mpr ⟨lw_p39, List.forall_mem_cons.mpr ⟨lw_p40, List.forall_mem_cons.mpr ⟨lw_p41, List.forall_mem_cons.mpr ⟨lw_p42, List.forall_mem_cons.mpr ⟨lw_p43, List.forall_mem_cons.mpr ⟨lw_p44, List.forall_mem_cons.mpr ⟨lw_p45, List.forall_mem_cons.mpr ⟨lw_p46, List.forall_mem_cons.mpr ⟨lw_p47, fun _ h => absurd h List.not_mem_nil⟩⟩⟩⟩⟩⟩⟩⟩⟩⟩⟩⟩⟩⟩⟩⟩
theorem lw_p48 : lw_okq (⟨"OpcodeForge$Machine", "push", "(I)V"⟩, 10) := ⟨⟨by decide +kernel, by decide +kernel⟩, List.mem_of_getElem? (i := 468) (by decide +kernel), List.mem_of_getElem? (i := 1255) (by decide +kernel), List.mem_of_getElem? (i := 1256) (by decide +kernel)⟩
theorem lw_p49 : lw_okq (⟨"OpcodeForge$Machine", "execute", "(IIII)V"⟩, 10) := ⟨⟨by decide +kernel, by decide +kernel⟩, List.mem_of_getElem? (i := 468) (by decide +kernel), List.mem_of_getElem? (i := 1283) (by decide +kernel), List.mem_of_getElem? (i := 1284) (by decide +kernel)⟩
theorem lw_p50 : lw_okq (⟨"OpcodeForge$Machine", "calculate", "(III)V"⟩, 10) := ⟨⟨by decide +kernel, by decide +kernel⟩, List.mem_of_getElem? (i := 468) (by decide +kernel), List.mem_of_getElem? (i := 1287) (by decide +kernel), List.mem_of_getElem? (i := 1288) (by decide +kernel)⟩
theorem lw_p51 : lw_okq (⟨"OpcodeForge$Machine", "flags", "()I"⟩, 10) := ⟨⟨by decide +kernel, by decide +kernel⟩, List.mem_of_getElem? (i := 468) (by decide +kernel), List.mem_of_getElem? (i := 1291) (by decide +kernel), List.mem_of_getElem? (i := 1292) (by decide +kernel)⟩
theorem lw_p52 : lw_okq (⟨"OpcodeForge$Machine", "pair", "(I)I"⟩, 10) := ⟨⟨by decide +kernel, by decide +kernel⟩, List.mem_of_getElem? (i := 468) (by decide +kernel), List.mem_of_getElem? (i := 1298) (by decide +kernel), List.mem_of_getElem? (i := 1299) (by decide +kernel)⟩
theorem lw_p53 : lw_okq (⟨"OpcodeForge$Machine", "calculateWide", "(IIII)V"⟩, 10) := ⟨⟨by decide +kernel, by decide +kernel⟩, List.mem_of_getElem? (i := 468) (by decide +kernel), List.mem_of_getElem? (i := 1306) (by decide +kernel), List.mem_of_getElem? (i := 1307) (by decide +kernel)⟩
theorem lw_p54 : lw_okq (⟨"OpcodeForge$Machine", "setFlags", "(I)V"⟩, 10) := ⟨⟨by decide +kernel, by decide +kernel⟩, List.mem_of_getElem? (i := 468) (by decide +kernel), List.mem_of_getElem? (i := 1310) (by decide +kernel), List.mem_of_getElem? (i := 1311) (by decide +kernel)⟩
theorem lw_p55 : lw_okq (⟨"OpcodeForge$Machine", "savePair", "(II)V"⟩, 10) := ⟨⟨by decide +kernel, by decide +kernel⟩, List.mem_of_getElem? (i := 468) (by decide +kernel), List.mem_of_getElem? (i := 1316) (by decide +kernel), List.mem_of_getElem? (i := 1317) (by decide +kernel)⟩
theorem lw_p56 : lw_okq (⟨"OpcodeForge$Machine", "load", "(I)I"⟩, 10) := ⟨⟨by decide +kernel, by decide +kernel⟩, List.mem_of_getElem? (i := 468) (by decide +kernel), List.mem_of_getElem? (i := 1320) (by decide +kernel), List.mem_of_getElem? (i := 1321) (by decide +kernel)⟩
theorem lw_p57 : lw_okq (⟨"OpcodeForge$Machine", "addressOf", "(I)I"⟩, 10) := ⟨⟨by decide +kernel, by decide +kernel⟩, List.mem_of_getElem? (i := 468) (by decide +kernel), List.mem_of_getElem? (i := 1324) (by decide +kernel), List.mem_of_getElem? (i := 1325) (by decide +kernel)⟩
theorem lw_p58 : lw_okq (⟨"OpcodeForge$Machine", "sum", "(III)I"⟩, 10) := ⟨⟨by decide +kernel, by decide +kernel⟩, List.mem_of_getElem? (i := 468) (by decide +kernel), List.mem_of_getElem? (i := 1332) (by decide +kernel), List.mem_of_getElem? (i := 1333) (by decide +kernel)⟩
theorem lw_p59 : lw_okq (⟨"OpcodeForge$Machine", "save", "(II)V"⟩, 10) := ⟨⟨by decide +kernel, by decide +kernel⟩, List.mem_of_getElem? (i := 468) (by decide +kernel), List.mem_of_getElem? (i := 1339) (by decide +kernel), List.mem_of_getElem? (i := 1340) (by decide +kernel)⟩
theorem lw_p60 : lw_okq (⟨"OpcodeForge$Machine", "difference", "(III)I"⟩, 10) := ⟨⟨by decide +kernel, by decide +kernel⟩, List.mem_of_getElem? (i := 468) (by decide +kernel), List.mem_of_getElem? (i := 1344) (by decide +kernel), List.mem_of_getElem? (i := 1345) (by decide +kernel)⟩
theorem lw_p61 : lw_okq (⟨"OpcodeForge$Machine", "combine", "(II)V"⟩, 10) := ⟨⟨by decide +kernel, by decide +kernel⟩, List.mem_of_getElem? (i := 468) (by decide +kernel), List.mem_of_getElem? (i := 1348) (by decide +kernel), List.mem_of_getElem? (i := 1349) (by decide +kernel)⟩
theorem lw_p62 : lw_okq (⟨"OpcodeForge$Machine", "turnA", "(I)V"⟩, 10) := ⟨⟨by decide +kernel, by decide +kernel⟩, List.mem_of_getElem? (i := 468) (by decide +kernel), List.mem_of_getElem? (i := 1361) (by decide +kernel), List.mem_of_getElem? (i := 1362) (by decide +kernel)⟩
theorem lw_p63 : lw_okq (⟨"OpcodeForge$Machine", "moved", "(II)I"⟩, 10) := ⟨⟨by decide +kernel, by decide +kernel⟩, List.mem_of_getElem? (i := 468) (by decide +kernel), List.mem_of_getElem? (i := 1365) (by decide +kernel), List.mem_of_getElem? (i := 1366) (by decide +kernel)⟩
def lw_privs_4 : List (MethodName × Nat) := [(⟨"OpcodeForge$Machine", "push", "(I)V"⟩, 10), (⟨"OpcodeForge$Machine", "execute", "(IIII)V"⟩, 10), (⟨"OpcodeForge$Machine", "calculate", "(III)V"⟩, 10), (⟨"OpcodeForge$Machine", "flags", "()I"⟩, 10), (⟨"OpcodeForge$Machine", "pair", "(I)I"⟩, 10), (⟨"OpcodeForge$Machine", "calculateWide", "(IIII)V"⟩, 10), (⟨"OpcodeForge$Machine", "setFlags", "(I)V"⟩, 10), (⟨"OpcodeForge$Machine", "savePair", "(II)V"⟩, 10), (⟨"OpcodeForge$Machine", "load", "(I)I"⟩, 10), (⟨"OpcodeForge$Machine", "addressOf", "(I)I"⟩, 10), (⟨"OpcodeForge$Machine", "sum", "(III)I"⟩, 10), (⟨"OpcodeForge$Machine", "save", "(II)V"⟩, 10), (⟨"OpcodeForge$Machine", "difference", "(III)I"⟩, 10), (⟨"OpcodeForge$Machine", "combine", "(II)V"⟩, 10), (⟨"OpcodeForge$Machine", "turnA", "(I)V"⟩, 10), (⟨"OpcodeForge$Machine", "moved", "(II)I"⟩, 10)]
theorem lw_r4 : ∀ q ∈ lw_privs_4, lw_okq q := List.forall_mem_cons.mpr ⟨lw_p48, List.forall_mem_cons.mpr ⟨lw_p49, List.forall_mem_cons.mpr ⟨lw_p50, List.forall_mem_cons.mpr ⟨lw_p51, List.forall_mem_cons.mpr ⟨lw_p52, List.forall_mem_cons.mpr ⟨lw_p53, List.forall_mem_cons.mpr ⟨lw_p54, List.forall_mem_cons.mpr ⟨lw_p55, List.forall_mem_cons.mpr ⟨lw_p56, List.forall_mem_cons.mpr ⟨lw_p57, List.forall_mem_cons.mpr ⟨lw_p58, List.forall_mem_cons.mpr ⟨lw_p59, List.forall_mem_cons.mpr ⟨lw_p60, List.forall_mem_cons.mpr ⟨lw_p61, List.forall_mem_cons.mpr ⟨lw_p62, List.forall_mem_cons.mpr ⟨lw_p63, fun _ h => absurd h List.not_mem_nil⟩⟩⟩⟩⟩⟩⟩⟩⟩⟩⟩⟩⟩⟩⟩⟩
theorem lw_p64 : lw_okq (⟨"OpcodeForge$Machine", "turn", "(II)V"⟩, 10) := ⟨⟨by decide +kernel, by decide +kernel⟩, List.mem_of_getElem? (i := 468) (by decide +kernel), List.mem_of_getElem? (i := 1372) (by decide +kernel), List.mem_of_getElem? (i := 1373) (by decide +kernel)⟩
theorem lw_p65 : lw_okq (⟨"OpcodeForge$Machine", "handleBit", "(II)V"⟩, 10) := ⟨⟨by decide +kernel, by decide +kernel⟩, List.mem_of_getElem? (i := 468) (by decide +kernel), List.mem_of_getElem? (i := 1376) (by decide +kernel), List.mem_of_getElem? (i := 1377) (by decide +kernel)⟩
theorem lw_p66 : lw_okq (⟨"OpcodeForge$Machine", "handleBlock", "(III)V"⟩, 10) := ⟨⟨by decide +kernel, by decide +kernel⟩, List.mem_of_getElem? (i := 468) (by decide +kernel), List.mem_of_getElem? (i := 1380) (by decide +kernel), List.mem_of_getElem? (i := 1381) (by decide +kernel)⟩
theorem lw_p67 : lw_okq (⟨"OpcodeForge$Machine", "moveBlock", "(I)Z"⟩, 10) := ⟨⟨by decide +kernel, by decide +kernel⟩, List.mem_of_getElem? (i := 468) (by decide +kernel), List.mem_of_getElem? (i := 1384) (by decide +kernel), List.mem_of_getElem? (i := 1385) (by decide +kernel)⟩
theorem lw_p68 : lw_okq (⟨"OpcodeForge$Machine", "moveOn", "(II)V"⟩, 10) := ⟨⟨by decide +kernel, by decide +kernel⟩, List.mem_of_getElem? (i := 468) (by decide +kernel), List.mem_of_getElem? (i := 1388) (by decide +kernel), List.mem_of_getElem? (i := 1389) (by decide +kernel)⟩
theorem lw_p69 : lw_okq (⟨"OpcodeForge$Machine", "blockFlags", "(I)I"⟩, 10) := ⟨⟨by decide +kernel, by decide +kernel⟩, List.mem_of_getElem? (i := 468) (by decide +kernel), List.mem_of_getElem? (i := 1392) (by decide +kernel), List.mem_of_getElem? (i := 1393) (by decide +kernel)⟩
theorem lw_p70 : lw_okq (⟨"OpcodeForge$Machine", "compareBlock", "(I)Z"⟩, 10) := ⟨⟨by decide +kernel, by decide +kernel⟩, List.mem_of_getElem? (i := 468) (by decide +kernel), List.mem_of_getElem? (i := 1396) (by decide +kernel), List.mem_of_getElem? (i := 1397) (by decide +kernel)⟩
theorem lw_p71 : lw_okq (⟨"OpcodeForge$Machine", "portBlock", "(ZI)Z"⟩, 10) := ⟨⟨by decide +kernel, by decide +kernel⟩, List.mem_of_getElem? (i := 468) (by decide +kernel), List.mem_of_getElem? (i := 1400) (by decide +kernel), List.mem_of_getElem? (i := 1401) (by decide +kernel)⟩
theorem lw_p72 : lw_okq (⟨"OpcodeForge$Machine", "putOut", "(II)V"⟩, 10) := ⟨⟨by decide +kernel, by decide +kernel⟩, List.mem_of_getElem? (i := 468) (by decide +kernel), List.mem_of_getElem? (i := 1404) (by decide +kernel), List.mem_of_getElem? (i := 1405) (by decide +kernel)⟩
theorem lw_p73 : lw_okq (⟨"OpcodeForge$Machine", "transfer", "(II)V"⟩, 10) := ⟨⟨by decide +kernel, by decide +kernel⟩, List.mem_of_getElem? (i := 468) (by decide +kernel), List.mem_of_getElem? (i := 1408) (by decide +kernel), List.mem_of_getElem? (i := 1409) (by decide +kernel)⟩
theorem lw_p74 : lw_okq (⟨"OpcodeForge$Machine", "change", "(II)V"⟩, 10) := ⟨⟨by decide +kernel, by decide +kernel⟩, List.mem_of_getElem? (i := 468) (by decide +kernel), List.mem_of_getElem? (i := 1412) (by decide +kernel), List.mem_of_getElem? (i := 1413) (by decide +kernel)⟩
theorem lw_p75 : lw_okq (⟨"OpcodeForge$Machine", "executeFlow", "(III)V"⟩, 10) := ⟨⟨by decide +kernel, by decide +kernel⟩, List.mem_of_getElem? (i := 468) (by decide +kernel), List.mem_of_getElem? (i := 1416) (by decide +kernel), List.mem_of_getElem? (i := 1417) (by decide +kernel)⟩
theorem lw_p76 : lw_okq (⟨"OpcodeForge$Machine", "exchange", "(II)V"⟩, 10) := ⟨⟨by decide +kernel, by decide +kernel⟩, List.mem_of_getElem? (i := 468) (by decide +kernel), List.mem_of_getElem? (i := 1420) (by decide +kernel), List.mem_of_getElem? (i := 1421) (by decide +kernel)⟩
theorem lw_p77 : lw_okq (⟨"OpcodeForge$Machine", "swap", "(II)V"⟩, 10) := ⟨⟨by decide +kernel, by decide +kernel⟩, List.mem_of_getElem? (i := 468) (by decide +kernel), List.mem_of_getElem? (i := 1424) (by decide +kernel), List.mem_of_getElem? (i := 1425) (by decide +kernel)⟩
theorem lw_p78 : lw_okq (⟨"OpcodeForge$Machine", "pop", "()I"⟩, 10) := ⟨⟨by decide +kernel, by decide +kernel⟩, List.mem_of_getElem? (i := 468) (by decide +kernel), List.mem_of_getElem? (i := 1428) (by decide +kernel), List.mem_of_getElem? (i := 1429) (by decide +kernel)⟩
theorem lw_p79 : lw_okq (⟨"OpcodeForge$Machine", "takeIn", "(II)V"⟩, 10) := ⟨⟨by decide +kernel, by decide +kernel⟩, List.mem_of_getElem? (i := 468) (by decide +kernel), List.mem_of_getElem? (i := 1432) (by decide +kernel), List.mem_of_getElem? (i := 1433) (by decide +kernel)⟩
def lw_privs_5 : List (MethodName × Nat) := [(⟨"OpcodeForge$Machine", "turn", "(II)V"⟩, 10), (⟨"OpcodeForge$Machine", "handleBit", "(II)V"⟩, 10), (⟨"OpcodeForge$Machine", "handleBlock", "(III)V"⟩, 10), (⟨"OpcodeForge$Machine", "moveBlock", "(I)Z"⟩, 10), (⟨"OpcodeForge$Machine", "moveOn", "(II)V"⟩, 10), (⟨"OpcodeForge$Machine", "blockFlags", "(I)I"⟩, 10), (⟨"OpcodeForge$Machine", "compareBlock", "(I)Z"⟩, 10), (⟨"OpcodeForge$Machine", "portBlock", "(ZI)Z"⟩, 10), (⟨"OpcodeForge$Machine", "putOut", "(II)V"⟩, 10), (⟨"OpcodeForge$Machine", "transfer", "(II)V"⟩, 10), (⟨"OpcodeForge$Machine", "change", "(II)V"⟩, 10), (⟨"OpcodeForge$Machine", "executeFlow", "(III)V"⟩, 10), (⟨"OpcodeForge$Machine", "exchange", "(II)V"⟩, 10), (⟨"OpcodeForge$Machine", "swap", "(II)V"⟩, 10), (⟨"OpcodeForge$Machine", "pop", "()I"⟩, 10), (⟨"OpcodeForge$Machine", "takeIn", "(II)V"⟩, 10)]
theorem lw_r5 : ∀ q ∈ lw_privs_5, lw_okq q := List.forall_mem_cons.mpr ⟨lw_p64, List.forall_mem_cons.mpr ⟨lw_p65, List.forall_mem_cons.mpr ⟨lw_p66, List.forall_mem_cons.mpr ⟨lw_p67, List.forall_mem_cons.mpr ⟨lw_p68, List.forall_mem_cons.mpr ⟨lw_p69, List.forall_mem_cons.mpr ⟨lw_p70, List.forall_mem_cons.mpr ⟨lw_p71, List.forall_mem_cons.mpr ⟨lw_p72, List.forall_mem_cons.mpr ⟨lw_p73, List.forall_mem_cons.mpr ⟨lw_p74, List.forall_mem_cons.mpr ⟨lw_p75, List.forall_mem_cons.mpr ⟨lw_p76, List.forall_mem_cons.mpr ⟨lw_p77, List.forall_mem_cons.mpr ⟨lw_p78, List.forall_mem_cons.mpr ⟨lw_p79, fun _ h => absurd h List.not_mem_nil⟩⟩⟩⟩⟩⟩⟩⟩⟩⟩⟩⟩⟩⟩⟩⟩
theorem lw_p80 : lw_okq (⟨"OpcodeForge$Machine", "jump", "(II)V"⟩, 10) := ⟨⟨by decide +kernel, by decide +kernel⟩, List.mem_of_getElem? (i := 468) (by decide +kernel), List.mem_of_getElem? (i := 1436) (by decide +kernel), List.mem_of_getElem? (i := 1437) (by decide +kernel)⟩
theorem lw_p81 : lw_okq (⟨"OpcodeForge$Machine", "holds", "(I)Z"⟩, 10) := ⟨⟨by decide +kernel, by decide +kernel⟩, List.mem_of_getElem? (i := 468) (by decide +kernel), List.mem_of_getElem? (i := 1443) (by decide +kernel), List.mem_of_getElem? (i := 1444) (by decide +kernel)⟩
theorem lw_p82 : lw_okq (⟨"OpcodeForge$Machine", "executeRest", "(I)V"⟩, 10) := ⟨⟨by decide +kernel, by decide +kernel⟩, List.mem_of_getElem? (i := 468) (by decide +kernel), List.mem_of_getElem? (i := 1447) (by decide +kernel), List.mem_of_getElem? (i := 1448) (by decide +kernel)⟩
theorem lw_p83 : lw_okq (⟨"OpcodeForge$Machine", "adjust", "(II)V"⟩, 10) := ⟨⟨by decide +kernel, by decide +kernel⟩, List.mem_of_getElem? (i := 468) (by decide +kernel), List.mem_of_getElem? (i := 1451) (by decide +kernel), List.mem_of_getElem? (i := 1452) (by decide +kernel)⟩
theorem lw_p84 : lw_okq (⟨"OpcodeForge$Machine", "turnHalves", "(ZII)V"⟩, 10) := ⟨⟨by decide +kernel, by decide +kernel⟩, List.mem_of_getElem? (i := 468) (by decide +kernel), List.mem_of_getElem? (i := 1455) (by decide +kernel), List.mem_of_getElem? (i := 1456) (by decide +kernel)⟩
theorem lw_p85 : lw_okq (⟨"OpcodeForgeModel", "pass", "()Z"⟩, 87) := ⟨⟨by decide +kernel, by decide +kernel⟩, List.mem_of_getElem? (i := 1477) (by decide +kernel), List.mem_of_getElem? (i := 1759) (by decide +kernel), List.mem_of_getElem? (i := 1760) (by decide +kernel)⟩
theorem lw_p86 : lw_okq (⟨"OpcodeForgeModel", "wrong", "(II)Z"⟩, 87) := ⟨⟨by decide +kernel, by decide +kernel⟩, List.mem_of_getElem? (i := 1477) (by decide +kernel), List.mem_of_getElem? (i := 1763) (by decide +kernel), List.mem_of_getElem? (i := 1764) (by decide +kernel)⟩
theorem lw_p87 : lw_okq (⟨"OpcodeForgeModel", "readLine", "()Z"⟩, 87) := ⟨⟨by decide +kernel, by decide +kernel⟩, List.mem_of_getElem? (i := 1477) (by decide +kernel), List.mem_of_getElem? (i := 1767) (by decide +kernel), List.mem_of_getElem? (i := 1768) (by decide +kernel)⟩
theorem lw_p88 : lw_okq (⟨"OpcodeForgeModel", "isDone", "()Z"⟩, 87) := ⟨⟨by decide +kernel, by decide +kernel⟩, List.mem_of_getElem? (i := 1477) (by decide +kernel), List.mem_of_getElem? (i := 1771) (by decide +kernel), List.mem_of_getElem? (i := 1772) (by decide +kernel)⟩
theorem lw_p89 : lw_okq (⟨"OpcodeForgeModel", "skipLine", "()Z"⟩, 87) := ⟨⟨by decide +kernel, by decide +kernel⟩, List.mem_of_getElem? (i := 1477) (by decide +kernel), List.mem_of_getElem? (i := 1775) (by decide +kernel), List.mem_of_getElem? (i := 1776) (by decide +kernel)⟩
theorem lw_p90 : lw_okq (⟨"OpcodeForgeModel", "anyName", "()J"⟩, 87) := ⟨⟨by decide +kernel, by decide +kernel⟩, List.mem_of_getElem? (i := 1477) (by decide +kernel), List.mem_of_getElem? (i := 1779) (by decide +kernel), List.mem_of_getElem? (i := 1780) (by decide +kernel)⟩
theorem lw_p91 : lw_okq (⟨"OpcodeForgeModel", "byteAt", "(I)I"⟩, 87) := ⟨⟨by decide +kernel, by decide +kernel⟩, List.mem_of_getElem? (i := 1477) (by decide +kernel), List.mem_of_getElem? (i := 1783) (by decide +kernel), List.mem_of_getElem? (i := 1784) (by decide +kernel)⟩
theorem lw_p92 : lw_okq (⟨"OpcodeForgeModel", "isBlank", "(I)Z"⟩, 87) := ⟨⟨by decide +kernel, by decide +kernel⟩, List.mem_of_getElem? (i := 1477) (by decide +kernel), List.mem_of_getElem? (i := 1787) (by decide +kernel), List.mem_of_getElem? (i := 1788) (by decide +kernel)⟩
theorem lw_p93 : lw_okq (⟨"OpcodeForgeModel", "isStart", "(I)Z"⟩, 87) := ⟨⟨by decide +kernel, by decide +kernel⟩, List.mem_of_getElem? (i := 1477) (by decide +kernel), List.mem_of_getElem? (i := 1791) (by decide +kernel), List.mem_of_getElem? (i := 1792) (by decide +kernel)⟩
theorem lw_p94 : lw_okq (⟨"OpcodeForgeModel", "capital", "(I)I"⟩, 87) := ⟨⟨by decide +kernel, by decide +kernel⟩, List.mem_of_getElem? (i := 1477) (by decide +kernel), List.mem_of_getElem? (i := 1795) (by decide +kernel), List.mem_of_getElem? (i := 1796) (by decide +kernel)⟩
theorem lw_p95 : lw_okq (⟨"OpcodeForgeModel", "isDigit", "(I)Z"⟩, 87) := ⟨⟨by decide +kernel, by decide +kernel⟩, List.mem_of_getElem? (i := 1477) (by decide +kernel), List.mem_of_getElem? (i := 1799) (by decide +kernel), List.mem_of_getElem? (i := 1800) (by decide +kernel)⟩
def lw_privs_6 : List (MethodName × Nat) := [(⟨"OpcodeForge$Machine", "jump", "(II)V"⟩, 10), (⟨"OpcodeForge$Machine", "holds", "(I)Z"⟩, 10), (⟨"OpcodeForge$Machine", "executeRest", "(I)V"⟩, 10), (⟨"OpcodeForge$Machine", "adjust", "(II)V"⟩, 10), (⟨"OpcodeForge$Machine", "turnHalves", "(ZII)V"⟩, 10), (⟨"OpcodeForgeModel", "pass", "()Z"⟩, 87), (⟨"OpcodeForgeModel", "wrong", "(II)Z"⟩, 87), (⟨"OpcodeForgeModel", "readLine", "()Z"⟩, 87), (⟨"OpcodeForgeModel", "isDone", "()Z"⟩, 87), (⟨"OpcodeForgeModel", "skipLine", "()Z"⟩, 87), (⟨"OpcodeForgeModel", "anyName", "()J"⟩, 87), (⟨"OpcodeForgeModel", "byteAt", "(I)I"⟩, 87), (⟨"OpcodeForgeModel", "isBlank", "(I)Z"⟩, 87), (⟨"OpcodeForgeModel", "isStart", "(I)Z"⟩, 87), (⟨"OpcodeForgeModel", "capital", "(I)I"⟩, 87), (⟨"OpcodeForgeModel", "isDigit", "(I)Z"⟩, 87)]
theorem lw_r6 : ∀ q ∈ lw_privs_6, lw_okq q := List.forall_mem_cons.mpr ⟨lw_p80, List.forall_mem_cons.mpr ⟨lw_p81, List.forall_mem_cons.mpr ⟨lw_p82, List.forall_mem_cons.mpr ⟨lw_p83, List.forall_mem_cons.mpr ⟨lw_p84, List.forall_mem_cons.mpr ⟨lw_p85, List.forall_mem_cons.mpr ⟨lw_p86, List.forall_mem_cons.mpr ⟨lw_p87, List.forall_mem_cons.mpr ⟨lw_p88, List.forall_mem_cons.mpr ⟨lw_p89, List.forall_mem_cons.mpr ⟨lw_p90, List.forall_mem_cons.mpr ⟨lw_p91, List.forall_mem_cons.mpr ⟨lw_p92, List.forall_mem_cons.mpr ⟨lw_p93, List.forall_mem_cons.mpr ⟨lw_p94, List.forall_mem_cons.mpr ⟨lw_p95, fun _ h => absurd h List.not_mem_nil⟩⟩⟩⟩⟩⟩⟩⟩⟩⟩⟩⟩⟩⟩⟩⟩
theorem lw_p96 : lw_okq (⟨"OpcodeForgeModel", "turn", "(IJZ)Z"⟩, 87) := ⟨⟨by decide +kernel, by decide +kernel⟩, List.mem_of_getElem? (i := 1477) (by decide +kernel), List.mem_of_getElem? (i := 1806) (by decide +kernel), List.mem_of_getElem? (i := 1807) (by decide +kernel)⟩
theorem lw_p97 : lw_okq (⟨"OpcodeForgeModel", "refuse", "()Z"⟩, 87) := ⟨⟨by decide +kernel, by decide +kernel⟩, List.mem_of_getElem? (i := 1477) (by decide +kernel), List.mem_of_getElem? (i := 1810) (by decide +kernel), List.mem_of_getElem? (i := 1811) (by decide +kernel)⟩
theorem lw_p98 : lw_okq (⟨"OpcodeForgeModel", "next", "()V"⟩, 87) := ⟨⟨by decide +kernel, by decide +kernel⟩, List.mem_of_getElem? (i := 1477) (by decide +kernel), List.mem_of_getElem? (i := 1814) (by decide +kernel), List.mem_of_getElem? (i := 1815) (by decide +kernel)⟩
theorem lw_p99 : lw_okq (⟨"OpcodeForgeModel", "name", "()V"⟩, 87) := ⟨⟨by decide +kernel, by decide +kernel⟩, List.mem_of_getElem? (i := 1477) (by decide +kernel), List.mem_of_getElem? (i := 1818) (by decide +kernel), List.mem_of_getElem? (i := 1819) (by decide +kernel)⟩
theorem lw_p100 : lw_okq (⟨"OpcodeForgeModel", "digits", "(II)V"⟩, 87) := ⟨⟨by decide +kernel, by decide +kernel⟩, List.mem_of_getElem? (i := 1477) (by decide +kernel), List.mem_of_getElem? (i := 1824) (by decide +kernel), List.mem_of_getElem? (i := 1825) (by decide +kernel)⟩
theorem lw_p101 : lw_okq (⟨"OpcodeForgeModel", "worth", "(I)I"⟩, 87) := ⟨⟨by decide +kernel, by decide +kernel⟩, List.mem_of_getElem? (i := 1477) (by decide +kernel), List.mem_of_getElem? (i := 1828) (by decide +kernel), List.mem_of_getElem? (i := 1829) (by decide +kernel)⟩
theorem lw_p102 : lw_okq (⟨"OpcodeForgeModel", "readSign", "(I)V"⟩, 87) := ⟨⟨by decide +kernel, by decide +kernel⟩, List.mem_of_getElem? (i := 1477) (by decide +kernel), List.mem_of_getElem? (i := 1832) (by decide +kernel), List.mem_of_getElem? (i := 1833) (by decide +kernel)⟩
theorem lw_p103 : lw_okq (⟨"OpcodeForgeModel", "isSign", "(I)Z"⟩, 87) := ⟨⟨by decide +kernel, by decide +kernel⟩, List.mem_of_getElem? (i := 1477) (by decide +kernel), List.mem_of_getElem? (i := 1836) (by decide +kernel), List.mem_of_getElem? (i := 1837) (by decide +kernel)⟩
theorem lw_p104 : lw_okq (⟨"OpcodeForgeModel", "tell", "(IIJI)Z"⟩, 87) := ⟨⟨by decide +kernel, by decide +kernel⟩, List.mem_of_getElem? (i := 1477) (by decide +kernel), List.mem_of_getElem? (i := 1840) (by decide +kernel), List.mem_of_getElem? (i := 1841) (by decide +kernel)⟩
theorem lw_p105 : lw_okq (⟨"OpcodeForgeModel", "isReserved", "(J)Z"⟩, 87) := ⟨⟨by decide +kernel, by decide +kernel⟩, List.mem_of_getElem? (i := 1477) (by decide +kernel), List.mem_of_getElem? (i := 1844) (by decide +kernel), List.mem_of_getElem? (i := 1845) (by decide +kernel)⟩
theorem lw_p106 : lw_okq (⟨"OpcodeForgeModel", "isRegister", "(J)Z"⟩, 87) := ⟨⟨by decide +kernel, by decide +kernel⟩, List.mem_of_getElem? (i := 1477) (by decide +kernel), List.mem_of_getElem? (i := 1848) (by decide +kernel), List.mem_of_getElem? (i := 1849) (by decide +kernel)⟩
theorem lw_p107 : lw_okq (⟨"OpcodeForgeModel", "isStatement", "(J)Z"⟩, 87) := ⟨⟨by decide +kernel, by decide +kernel⟩, List.mem_of_getElem? (i := 1477) (by decide +kernel), List.mem_of_getElem? (i := 1874) (by decide +kernel), List.mem_of_getElem? (i := 1875) (by decide +kernel)⟩
theorem lw_p108 : lw_okq (⟨"OpcodeForgeModel", "plain", "(J)I"⟩, 87) := ⟨⟨by decide +kernel, by decide +kernel⟩, List.mem_of_getElem? (i := 1477) (by decide +kernel), List.mem_of_getElem? (i := 1882) (by decide +kernel), List.mem_of_getElem? (i := 1883) (by decide +kernel)⟩
theorem lw_p109 : lw_okq (⟨"OpcodeForgeModel", "isMany", "(J)Z"⟩, 87) := ⟨⟨by decide +kernel, by decide +kernel⟩, List.mem_of_getElem? (i := 1477) (by decide +kernel), List.mem_of_getElem? (i := 1920) (by decide +kernel), List.mem_of_getElem? (i := 1921) (by decide +kernel)⟩
theorem lw_p110 : lw_okq (⟨"OpcodeForgeModel", "find", "(II)I"⟩, 87) := ⟨⟨by decide +kernel, by decide +kernel⟩, List.mem_of_getElem? (i := 1477) (by decide +kernel), List.mem_of_getElem? (i := 1958) (by decide +kernel), List.mem_of_getElem? (i := 1959) (by decide +kernel)⟩
theorem lw_p111 : lw_okq (⟨"OpcodeForgeModel", "addName", "(III)V"⟩, 87) := ⟨⟨by decide +kernel, by decide +kernel⟩, List.mem_of_getElem? (i := 1477) (by decide +kernel), List.mem_of_getElem? (i := 1962) (by decide +kernel), List.mem_of_getElem? (i := 1963) (by decide +kernel)⟩
def lw_privs_7 : List (MethodName × Nat) := [(⟨"OpcodeForgeModel", "turn", "(IJZ)Z"⟩, 87), (⟨"OpcodeForgeModel", "refuse", "()Z"⟩, 87), (⟨"OpcodeForgeModel", "next", "()V"⟩, 87), (⟨"OpcodeForgeModel", "name", "()V"⟩, 87), (⟨"OpcodeForgeModel", "digits", "(II)V"⟩, 87), (⟨"OpcodeForgeModel", "worth", "(I)I"⟩, 87), (⟨"OpcodeForgeModel", "readSign", "(I)V"⟩, 87), (⟨"OpcodeForgeModel", "isSign", "(I)Z"⟩, 87), (⟨"OpcodeForgeModel", "tell", "(IIJI)Z"⟩, 87), (⟨"OpcodeForgeModel", "isReserved", "(J)Z"⟩, 87), (⟨"OpcodeForgeModel", "isRegister", "(J)Z"⟩, 87), (⟨"OpcodeForgeModel", "isStatement", "(J)Z"⟩, 87), (⟨"OpcodeForgeModel", "plain", "(J)I"⟩, 87), (⟨"OpcodeForgeModel", "isMany", "(J)Z"⟩, 87), (⟨"OpcodeForgeModel", "find", "(II)I"⟩, 87), (⟨"OpcodeForgeModel", "addName", "(III)V"⟩, 87)]
theorem lw_r7 : ∀ q ∈ lw_privs_7, lw_okq q := List.forall_mem_cons.mpr ⟨lw_p96, List.forall_mem_cons.mpr ⟨lw_p97, List.forall_mem_cons.mpr ⟨lw_p98, List.forall_mem_cons.mpr ⟨lw_p99, List.forall_mem_cons.mpr ⟨lw_p100, List.forall_mem_cons.mpr ⟨lw_p101, List.forall_mem_cons.mpr ⟨lw_p102, List.forall_mem_cons.mpr ⟨lw_p103, List.forall_mem_cons.mpr ⟨lw_p104, List.forall_mem_cons.mpr ⟨lw_p105, List.forall_mem_cons.mpr ⟨lw_p106, List.forall_mem_cons.mpr ⟨lw_p107, List.forall_mem_cons.mpr ⟨lw_p108, List.forall_mem_cons.mpr ⟨lw_p109, List.forall_mem_cons.mpr ⟨lw_p110, List.forall_mem_cons.mpr ⟨lw_p111, fun _ h => absurd h List.not_mem_nil⟩⟩⟩⟩⟩⟩⟩⟩⟩⟩⟩⟩⟩⟩⟩⟩
theorem lw_p112 : lw_okq (⟨"OpcodeForgeModel", "equal", "(IIJ)Z"⟩, 87) := ⟨⟨by decide +kernel, by decide +kernel⟩, List.mem_of_getElem? (i := 1477) (by decide +kernel), List.mem_of_getElem? (i := 1966) (by decide +kernel), List.mem_of_getElem? (i := 1967) (by decide +kernel)⟩
theorem lw_p113 : lw_okq (⟨"OpcodeForgeModel", "expression", "(Z)Z"⟩, 87) := ⟨⟨by decide +kernel, by decide +kernel⟩, List.mem_of_getElem? (i := 1477) (by decide +kernel), List.mem_of_getElem? (i := 1970) (by decide +kernel), List.mem_of_getElem? (i := 1971) (by decide +kernel)⟩
theorem lw_p114 : lw_okq (⟨"OpcodeForgeModel", "push", "(I)V"⟩, 87) := ⟨⟨by decide +kernel, by decide +kernel⟩, List.mem_of_getElem? (i := 1477) (by decide +kernel), List.mem_of_getElem? (i := 1974) (by decide +kernel), List.mem_of_getElem? (i := 1975) (by decide +kernel)⟩
theorem lw_p115 : lw_okq (⟨"OpcodeForgeModel", "operand", "(Z)Z"⟩, 87) := ⟨⟨by decide +kernel, by decide +kernel⟩, List.mem_of_getElem? (i := 1477) (by decide +kernel), List.mem_of_getElem? (i := 1978) (by decide +kernel), List.mem_of_getElem? (i := 1979) (by decide +kernel)⟩
theorem lw_p116 : lw_okq (⟨"OpcodeForgeModel", "unaries", "(Z)Z"⟩, 87) := ⟨⟨by decide +kernel, by decide +kernel⟩, List.mem_of_getElem? (i := 1477) (by decide +kernel), List.mem_of_getElem? (i := 1982) (by decide +kernel), List.mem_of_getElem? (i := 1983) (by decide +kernel)⟩
theorem lw_p117 : lw_okq (⟨"OpcodeForgeModel", "apply", "(Z)Z"⟩, 87) := ⟨⟨by decide +kernel, by decide +kernel⟩, List.mem_of_getElem? (i := 1477) (by decide +kernel), List.mem_of_getElem? (i := 1986) (by decide +kernel), List.mem_of_getElem? (i := 1987) (by decide +kernel)⟩
theorem lw_p118 : lw_okq (⟨"OpcodeForgeModel", "behind", "(Z)Z"⟩, 87) := ⟨⟨by decide +kernel, by decide +kernel⟩, List.mem_of_getElem? (i := 1477) (by decide +kernel), List.mem_of_getElem? (i := 1990) (by decide +kernel), List.mem_of_getElem? (i := 1991) (by decide +kernel)⟩
theorem lw_p119 : lw_okq (⟨"OpcodeForgeModel", "rank", "(I)I"⟩, 87) := ⟨⟨by decide +kernel, by decide +kernel⟩, List.mem_of_getElem? (i := 1477) (by decide +kernel), List.mem_of_getElem? (i := 1994) (by decide +kernel), List.mem_of_getElem? (i := 1995) (by decide +kernel)⟩
theorem lw_p120 : lw_okq (⟨"OpcodeForgeModel", "statement", "(IJ)Z"⟩, 87) := ⟨⟨by decide +kernel, by decide +kernel⟩, List.mem_of_getElem? (i := 1477) (by decide +kernel), List.mem_of_getElem? (i := 1998) (by decide +kernel), List.mem_of_getElem? (i := 1999) (by decide +kernel)⟩
theorem lw_p121 : lw_okq (⟨"OpcodeForgeModel", "directive", "(IJ)Z"⟩, 87) := ⟨⟨by decide +kernel, by decide +kernel⟩, List.mem_of_getElem? (i := 1477) (by decide +kernel), List.mem_of_getElem? (i := 2002) (by decide +kernel), List.mem_of_getElem? (i := 2003) (by decide +kernel)⟩
theorem lw_p122 : lw_okq (⟨"OpcodeForgeModel", "data", "(IZ)Z"⟩, 87) := ⟨⟨by decide +kernel, by decide +kernel⟩, List.mem_of_getElem? (i := 1477) (by decide +kernel), List.mem_of_getElem? (i := 2006) (by decide +kernel), List.mem_of_getElem? (i := 2007) (by decide +kernel)⟩
theorem lw_p123 : lw_okq (⟨"OpcodeForgeModel", "lay", "(I)V"⟩, 87) := ⟨⟨by decide +kernel, by decide +kernel⟩, List.mem_of_getElem? (i := 1477) (by decide +kernel), List.mem_of_getElem? (i := 2010) (by decide +kernel), List.mem_of_getElem? (i := 2011) (by decide +kernel)⟩
theorem lw_p124 : lw_okq (⟨"OpcodeForgeModel", "space", "(I)Z"⟩, 87) := ⟨⟨by decide +kernel, by decide +kernel⟩, List.mem_of_getElem? (i := 1477) (by decide +kernel), List.mem_of_getElem? (i := 2014) (by decide +kernel), List.mem_of_getElem? (i := 2015) (by decide +kernel)⟩
theorem lw_p125 : lw_okq (⟨"OpcodeForgeModel", "readOperands", "()Z"⟩, 87) := ⟨⟨by decide +kernel, by decide +kernel⟩, List.mem_of_getElem? (i := 1477) (by decide +kernel), List.mem_of_getElem? (i := 2018) (by decide +kernel), List.mem_of_getElem? (i := 2019) (by decide +kernel)⟩
theorem lw_p126 : lw_okq (⟨"OpcodeForgeModel", "readOperand", "()Z"⟩, 87) := ⟨⟨by decide +kernel, by decide +kernel⟩, List.mem_of_getElem? (i := 1477) (by decide +kernel), List.mem_of_getElem? (i := 2022) (by decide +kernel), List.mem_of_getElem? (i := 2023) (by decide +kernel)⟩
theorem lw_p127 : lw_okq (⟨"OpcodeForgeModel", "isPlace", "()Z"⟩, 87) := ⟨⟨by decide +kernel, by decide +kernel⟩, List.mem_of_getElem? (i := 1477) (by decide +kernel), List.mem_of_getElem? (i := 2026) (by decide +kernel), List.mem_of_getElem? (i := 2027) (by decide +kernel)⟩
def lw_privs_8 : List (MethodName × Nat) := [(⟨"OpcodeForgeModel", "equal", "(IIJ)Z"⟩, 87), (⟨"OpcodeForgeModel", "expression", "(Z)Z"⟩, 87), (⟨"OpcodeForgeModel", "push", "(I)V"⟩, 87), (⟨"OpcodeForgeModel", "operand", "(Z)Z"⟩, 87), (⟨"OpcodeForgeModel", "unaries", "(Z)Z"⟩, 87), (⟨"OpcodeForgeModel", "apply", "(Z)Z"⟩, 87), (⟨"OpcodeForgeModel", "behind", "(Z)Z"⟩, 87), (⟨"OpcodeForgeModel", "rank", "(I)I"⟩, 87), (⟨"OpcodeForgeModel", "statement", "(IJ)Z"⟩, 87), (⟨"OpcodeForgeModel", "directive", "(IJ)Z"⟩, 87), (⟨"OpcodeForgeModel", "data", "(IZ)Z"⟩, 87), (⟨"OpcodeForgeModel", "lay", "(I)V"⟩, 87), (⟨"OpcodeForgeModel", "space", "(I)Z"⟩, 87), (⟨"OpcodeForgeModel", "readOperands", "()Z"⟩, 87), (⟨"OpcodeForgeModel", "readOperand", "()Z"⟩, 87), (⟨"OpcodeForgeModel", "isPlace", "()Z"⟩, 87)]
theorem lw_r8 : ∀ q ∈ lw_privs_8, lw_okq q := List.forall_mem_cons.mpr ⟨lw_p112, List.forall_mem_cons.mpr ⟨lw_p113, List.forall_mem_cons.mpr ⟨lw_p114, List.forall_mem_cons.mpr ⟨lw_p115, List.forall_mem_cons.mpr ⟨lw_p116, List.forall_mem_cons.mpr ⟨lw_p117, List.forall_mem_cons.mpr ⟨lw_p118, List.forall_mem_cons.mpr ⟨lw_p119, List.forall_mem_cons.mpr ⟨lw_p120, List.forall_mem_cons.mpr ⟨lw_p121, List.forall_mem_cons.mpr ⟨lw_p122, List.forall_mem_cons.mpr ⟨lw_p123, List.forall_mem_cons.mpr ⟨lw_p124, List.forall_mem_cons.mpr ⟨lw_p125, List.forall_mem_cons.mpr ⟨lw_p126, List.forall_mem_cons.mpr ⟨lw_p127, fun _ h => absurd h List.not_mem_nil⟩⟩⟩⟩⟩⟩⟩⟩⟩⟩⟩⟩⟩⟩⟩⟩
theorem lw_p128 : lw_okq (⟨"OpcodeForgeModel", "endsOperand", "()Z"⟩, 87) := ⟨⟨by decide +kernel, by decide +kernel⟩, List.mem_of_getElem? (i := 1477) (by decide +kernel), List.mem_of_getElem? (i := 2030) (by decide +kernel), List.mem_of_getElem? (i := 2031) (by decide +kernel)⟩
theorem lw_p129 : lw_okq (⟨"OpcodeForgeModel", "goTo", "(I)V"⟩, 87) := ⟨⟨by decide +kernel, by decide +kernel⟩, List.mem_of_getElem? (i := 1477) (by decide +kernel), List.mem_of_getElem? (i := 2034) (by decide +kernel), List.mem_of_getElem? (i := 2035) (by decide +kernel)⟩
theorem lw_p130 : lw_okq (⟨"OpcodeForgeModel", "readPlace", "(I)Z"⟩, 87) := ⟨⟨by decide +kernel, by decide +kernel⟩, List.mem_of_getElem? (i := 1477) (by decide +kernel), List.mem_of_getElem? (i := 2038) (by decide +kernel), List.mem_of_getElem? (i := 2039) (by decide +kernel)⟩
theorem lw_p131 : lw_okq (⟨"OpcodeForgeModel", "index", "(J)I"⟩, 87) := ⟨⟨by decide +kernel, by decide +kernel⟩, List.mem_of_getElem? (i := 1477) (by decide +kernel), List.mem_of_getElem? (i := 2042) (by decide +kernel), List.mem_of_getElem? (i := 2043) (by decide +kernel)⟩
theorem lw_p132 : lw_okq (⟨"OpcodeForgeModel", "setRegister", "(IJ)V"⟩, 87) := ⟨⟨by decide +kernel, by decide +kernel⟩, List.mem_of_getElem? (i := 1477) (by decide +kernel), List.mem_of_getElem? (i := 2046) (by decide +kernel), List.mem_of_getElem? (i := 2047) (by decide +kernel)⟩
theorem lw_p133 : lw_okq (⟨"OpcodeForgeModel", "register8", "(J)I"⟩, 87) := ⟨⟨by decide +kernel, by decide +kernel⟩, List.mem_of_getElem? (i := 1477) (by decide +kernel), List.mem_of_getElem? (i := 2050) (by decide +kernel), List.mem_of_getElem? (i := 2051) (by decide +kernel)⟩
theorem lw_p134 : lw_okq (⟨"OpcodeForgeModel", "pair", "(J)I"⟩, 87) := ⟨⟨by decide +kernel, by decide +kernel⟩, List.mem_of_getElem? (i := 1477) (by decide +kernel), List.mem_of_getElem? (i := 2054) (by decide +kernel), List.mem_of_getElem? (i := 2055) (by decide +kernel)⟩
theorem lw_p135 : lw_okq (⟨"OpcodeForgeModel", "condition", "(J)I"⟩, 87) := ⟨⟨by decide +kernel, by decide +kernel⟩, List.mem_of_getElem? (i := 1477) (by decide +kernel), List.mem_of_getElem? (i := 2058) (by decide +kernel), List.mem_of_getElem? (i := 2059) (by decide +kernel)⟩
theorem lw_p136 : lw_okq (⟨"OpcodeForgeModel", "encode", "(J)Z"⟩, 87) := ⟨⟨by decide +kernel, by decide +kernel⟩, List.mem_of_getElem? (i := 1477) (by decide +kernel), List.mem_of_getElem? (i := 2062) (by decide +kernel), List.mem_of_getElem? (i := 2063) (by decide +kernel)⟩
theorem lw_p137 : lw_okq (⟨"OpcodeForgeModel", "give", "(III)Z"⟩, 87) := ⟨⟨by decide +kernel, by decide +kernel⟩, List.mem_of_getElem? (i := 1477) (by decide +kernel), List.mem_of_getElem? (i := 2066) (by decide +kernel), List.mem_of_getElem? (i := 2067) (by decide +kernel)⟩
theorem lw_p138 : lw_okq (⟨"OpcodeForgeModel", "conditionOf", "(I)I"⟩, 87) := ⟨⟨by decide +kernel, by decide +kernel⟩, List.mem_of_getElem? (i := 1477) (by decide +kernel), List.mem_of_getElem? (i := 2070) (by decide +kernel), List.mem_of_getElem? (i := 2071) (by decide +kernel)⟩
theorem lw_p139 : lw_okq (⟨"OpcodeForgeModel", "encodeOne", "(J)Z"⟩, 87) := ⟨⟨by decide +kernel, by decide +kernel⟩, List.mem_of_getElem? (i := 1477) (by decide +kernel), List.mem_of_getElem? (i := 2074) (by decide +kernel), List.mem_of_getElem? (i := 2075) (by decide +kernel)⟩
theorem lw_p140 : lw_okq (⟨"OpcodeForgeModel", "octetOf", "(I)I"⟩, 87) := ⟨⟨by decide +kernel, by decide +kernel⟩, List.mem_of_getElem? (i := 1477) (by decide +kernel), List.mem_of_getElem? (i := 2078) (by decide +kernel), List.mem_of_getElem? (i := 2079) (by decide +kernel)⟩
theorem lw_p141 : lw_okq (⟨"OpcodeForgeModel", "is", "(II)Z"⟩, 87) := ⟨⟨by decide +kernel, by decide +kernel⟩, List.mem_of_getElem? (i := 1477) (by decide +kernel), List.mem_of_getElem? (i := 2082) (by decide +kernel), List.mem_of_getElem? (i := 2083) (by decide +kernel)⟩
theorem lw_p142 : lw_okq (⟨"OpcodeForgeModel", "frontOf", "(I)I"⟩, 87) := ⟨⟨by decide +kernel, by decide +kernel⟩, List.mem_of_getElem? (i := 1477) (by decide +kernel), List.mem_of_getElem? (i := 2086) (by decide +kernel), List.mem_of_getElem? (i := 2087) (by decide +kernel)⟩
theorem lw_p143 : lw_okq (⟨"OpcodeForgeModel", "giveOctet", "(III)Z"⟩, 87) := ⟨⟨by decide +kernel, by decide +kernel⟩, List.mem_of_getElem? (i := 1477) (by decide +kernel), List.mem_of_getElem? (i := 2090) (by decide +kernel), List.mem_of_getElem? (i := 2091) (by decide +kernel)⟩
def lw_privs_9 : List (MethodName × Nat) := [(⟨"OpcodeForgeModel", "endsOperand", "()Z"⟩, 87), (⟨"OpcodeForgeModel", "goTo", "(I)V"⟩, 87), (⟨"OpcodeForgeModel", "readPlace", "(I)Z"⟩, 87), (⟨"OpcodeForgeModel", "index", "(J)I"⟩, 87), (⟨"OpcodeForgeModel", "setRegister", "(IJ)V"⟩, 87), (⟨"OpcodeForgeModel", "register8", "(J)I"⟩, 87), (⟨"OpcodeForgeModel", "pair", "(J)I"⟩, 87), (⟨"OpcodeForgeModel", "condition", "(J)I"⟩, 87), (⟨"OpcodeForgeModel", "encode", "(J)Z"⟩, 87), (⟨"OpcodeForgeModel", "give", "(III)Z"⟩, 87), (⟨"OpcodeForgeModel", "conditionOf", "(I)I"⟩, 87), (⟨"OpcodeForgeModel", "encodeOne", "(J)Z"⟩, 87), (⟨"OpcodeForgeModel", "octetOf", "(I)I"⟩, 87), (⟨"OpcodeForgeModel", "is", "(II)Z"⟩, 87), (⟨"OpcodeForgeModel", "frontOf", "(I)I"⟩, 87), (⟨"OpcodeForgeModel", "giveOctet", "(III)Z"⟩, 87)]
theorem lw_r9 : ∀ q ∈ lw_privs_9, lw_okq q := List.forall_mem_cons.mpr ⟨lw_p128, List.forall_mem_cons.mpr ⟨lw_p129, List.forall_mem_cons.mpr ⟨lw_p130, List.forall_mem_cons.mpr ⟨lw_p131, List.forall_mem_cons.mpr ⟨lw_p132, List.forall_mem_cons.mpr ⟨lw_p133, List.forall_mem_cons.mpr ⟨lw_p134, List.forall_mem_cons.mpr ⟨lw_p135, List.forall_mem_cons.mpr ⟨lw_p136, List.forall_mem_cons.mpr ⟨lw_p137, List.forall_mem_cons.mpr ⟨lw_p138, List.forall_mem_cons.mpr ⟨lw_p139, List.forall_mem_cons.mpr ⟨lw_p140, List.forall_mem_cons.mpr ⟨lw_p141, List.forall_mem_cons.mpr ⟨lw_p142, List.forall_mem_cons.mpr ⟨lw_p143, fun _ h => absurd h List.not_mem_nil⟩⟩⟩⟩⟩⟩⟩⟩⟩⟩⟩⟩⟩⟩⟩⟩
theorem lw_p144 : lw_okq (⟨"OpcodeForgeModel", "alone", "(J)I"⟩, 87) := ⟨⟨by decide +kernel, by decide +kernel⟩, List.mem_of_getElem? (i := 1477) (by decide +kernel), List.mem_of_getElem? (i := 2094) (by decide +kernel), List.mem_of_getElem? (i := 2095) (by decide +kernel)⟩
theorem lw_p145 : lw_okq (⟨"OpcodeForgeModel", "giveWith", "(IIIII)Z"⟩, 87) := ⟨⟨by decide +kernel, by decide +kernel⟩, List.mem_of_getElem? (i := 1477) (by decide +kernel), List.mem_of_getElem? (i := 2098) (by decide +kernel), List.mem_of_getElem? (i := 2099) (by decide +kernel)⟩
theorem lw_p146 : lw_okq (⟨"OpcodeForgeModel", "shiftOf", "(J)I"⟩, 87) := ⟨⟨by decide +kernel, by decide +kernel⟩, List.mem_of_getElem? (i := 1477) (by decide +kernel), List.mem_of_getElem? (i := 2102) (by decide +kernel), List.mem_of_getElem? (i := 2103) (by decide +kernel)⟩
theorem lw_p147 : lw_okq (⟨"OpcodeForgeModel", "encodeTwo", "(J)Z"⟩, 87) := ⟨⟨by decide +kernel, by decide +kernel⟩, List.mem_of_getElem? (i := 1477) (by decide +kernel), List.mem_of_getElem? (i := 2106) (by decide +kernel), List.mem_of_getElem? (i := 2107) (by decide +kernel)⟩
theorem lw_p148 : lw_okq (⟨"OpcodeForgeModel", "encodeLoad", "()Z"⟩, 87) := ⟨⟨by decide +kernel, by decide +kernel⟩, List.mem_of_getElem? (i := 1477) (by decide +kernel), List.mem_of_getElem? (i := 2110) (by decide +kernel), List.mem_of_getElem? (i := 2111) (by decide +kernel)⟩
theorem lw_p149 : lw_okq (⟨"OpcodeForgeModel", "isHL", "(I)Z"⟩, 87) := ⟨⟨by decide +kernel, by decide +kernel⟩, List.mem_of_getElem? (i := 1477) (by decide +kernel), List.mem_of_getElem? (i := 2114) (by decide +kernel), List.mem_of_getElem? (i := 2115) (by decide +kernel)⟩
theorem lw_p150 : lw_okq (⟨"OpcodeForgeModel", "isA", "(I)Z"⟩, 87) := ⟨⟨by decide +kernel, by decide +kernel⟩, List.mem_of_getElem? (i := 1477) (by decide +kernel), List.mem_of_getElem? (i := 2118) (by decide +kernel), List.mem_of_getElem? (i := 2119) (by decide +kernel)⟩
theorem lw_p151 : lw_okq (⟨"OpcodeForgeModel", "encodeSum", "(J)Z"⟩, 87) := ⟨⟨by decide +kernel, by decide +kernel⟩, List.mem_of_getElem? (i := 1477) (by decide +kernel), List.mem_of_getElem? (i := 2122) (by decide +kernel), List.mem_of_getElem? (i := 2123) (by decide +kernel)⟩
theorem lw_p152 : lw_okq (⟨"OpcodeForgeModel", "lengthOf", "()I"⟩, 87) := ⟨⟨by decide +kernel, by decide +kernel⟩, List.mem_of_getElem? (i := 1477) (by decide +kernel), List.mem_of_getElem? (i := 2126) (by decide +kernel), List.mem_of_getElem? (i := 2127) (by decide +kernel)⟩
theorem lw_p153 : lw_okq (⟨"OpcodeForgeModel", "layInstruction", "(I)Z"⟩, 87) := ⟨⟨by decide +kernel, by decide +kernel⟩, List.mem_of_getElem? (i := 1477) (by decide +kernel), List.mem_of_getElem? (i := 2130) (by decide +kernel), List.mem_of_getElem? (i := 2131) (by decide +kernel)⟩
theorem lw_p154 : lw_okq (⟨"OpcodeForgeModel", "work", "(II)Z"⟩, 87) := ⟨⟨by decide +kernel, by decide +kernel⟩, List.mem_of_getElem? (i := 1477) (by decide +kernel), List.mem_of_getElem? (i := 2134) (by decide +kernel), List.mem_of_getElem? (i := 2135) (by decide +kernel)⟩
theorem lw_p155 : lw_okq (⟨"OpcodeForgeModel", "expValue", "(I)I"⟩, 87) := ⟨⟨by decide +kernel, by decide +kernel⟩, List.mem_of_getElem? (i := 1477) (by decide +kernel), List.mem_of_getElem? (i := 2138) (by decide +kernel), List.mem_of_getElem? (i := 2139) (by decide +kernel)⟩
theorem lw_p156 : lw_okq (⟨"OpcodeForgeModel", "writeAt", "(I)I"⟩, 87) := ⟨⟨by decide +kernel, by decide +kernel⟩, List.mem_of_getElem? (i := 1477) (by decide +kernel), List.mem_of_getElem? (i := 2158) (by decide +kernel), List.mem_of_getElem? (i := 2159) (by decide +kernel)⟩
theorem lw_p157 : lw_okq (⟨"OpcodeForgeModel", "decode", "(I)Z"⟩, 87) := ⟨⟨by decide +kernel, by decide +kernel⟩, List.mem_of_getElem? (i := 1477) (by decide +kernel), List.mem_of_getElem? (i := 2162) (by decide +kernel), List.mem_of_getElem? (i := 2163) (by decide +kernel)⟩
theorem lw_p158 : lw_okq (⟨"OpcodeForgeModel", "peek", "(I)I"⟩, 87) := ⟨⟨by decide +kernel, by decide +kernel⟩, List.mem_of_getElem? (i := 1477) (by decide +kernel), List.mem_of_getElem? (i := 2166) (by decide +kernel), List.mem_of_getElem? (i := 2167) (by decide +kernel)⟩
theorem lw_p159 : lw_okq (⟨"OpcodeForgeModel", "plainLength", "(I)I"⟩, 87) := ⟨⟨by decide +kernel, by decide +kernel⟩, List.mem_of_getElem? (i := 1477) (by decide +kernel), List.mem_of_getElem? (i := 2170) (by decide +kernel), List.mem_of_getElem? (i := 2171) (by decide +kernel)⟩
def lw_privs_10 : List (MethodName × Nat) := [(⟨"OpcodeForgeModel", "alone", "(J)I"⟩, 87), (⟨"OpcodeForgeModel", "giveWith", "(IIIII)Z"⟩, 87), (⟨"OpcodeForgeModel", "shiftOf", "(J)I"⟩, 87), (⟨"OpcodeForgeModel", "encodeTwo", "(J)Z"⟩, 87), (⟨"OpcodeForgeModel", "encodeLoad", "()Z"⟩, 87), (⟨"OpcodeForgeModel", "isHL", "(I)Z"⟩, 87), (⟨"OpcodeForgeModel", "isA", "(I)Z"⟩, 87), (⟨"OpcodeForgeModel", "encodeSum", "(J)Z"⟩, 87), (⟨"OpcodeForgeModel", "lengthOf", "()I"⟩, 87), (⟨"OpcodeForgeModel", "layInstruction", "(I)Z"⟩, 87), (⟨"OpcodeForgeModel", "work", "(II)Z"⟩, 87), (⟨"OpcodeForgeModel", "expValue", "(I)I"⟩, 87), (⟨"OpcodeForgeModel", "writeAt", "(I)I"⟩, 87), (⟨"OpcodeForgeModel", "decode", "(I)Z"⟩, 87), (⟨"OpcodeForgeModel", "peek", "(I)I"⟩, 87), (⟨"OpcodeForgeModel", "plainLength", "(I)I"⟩, 87)]
theorem lw_r10 : ∀ q ∈ lw_privs_10, lw_okq q := List.forall_mem_cons.mpr ⟨lw_p144, List.forall_mem_cons.mpr ⟨lw_p145, List.forall_mem_cons.mpr ⟨lw_p146, List.forall_mem_cons.mpr ⟨lw_p147, List.forall_mem_cons.mpr ⟨lw_p148, List.forall_mem_cons.mpr ⟨lw_p149, List.forall_mem_cons.mpr ⟨lw_p150, List.forall_mem_cons.mpr ⟨lw_p151, List.forall_mem_cons.mpr ⟨lw_p152, List.forall_mem_cons.mpr ⟨lw_p153, List.forall_mem_cons.mpr ⟨lw_p154, List.forall_mem_cons.mpr ⟨lw_p155, List.forall_mem_cons.mpr ⟨lw_p156, List.forall_mem_cons.mpr ⟨lw_p157, List.forall_mem_cons.mpr ⟨lw_p158, List.forall_mem_cons.mpr ⟨lw_p159, fun _ h => absurd h List.not_mem_nil⟩⟩⟩⟩⟩⟩⟩⟩⟩⟩⟩⟩⟩⟩⟩⟩
theorem lw_p160 : lw_okq (⟨"OpcodeForgeModel", "isBehind237", "(I)Z"⟩, 87) := ⟨⟨by decide +kernel, by decide +kernel⟩, List.mem_of_getElem? (i := 1477) (by decide +kernel), List.mem_of_getElem? (i := 2174) (by decide +kernel), List.mem_of_getElem? (i := 2175) (by decide +kernel)⟩
theorem lw_p161 : lw_okq (⟨"OpcodeForgeModel", "signed", "(I)I"⟩, 87) := ⟨⟨by decide +kernel, by decide +kernel⟩, List.mem_of_getElem? (i := 1477) (by decide +kernel), List.mem_of_getElem? (i := 2178) (by decide +kernel), List.mem_of_getElem? (i := 2179) (by decide +kernel)⟩
theorem lw_p162 : lw_okq (⟨"OpcodeForgeModel", "hasPlace", "(I)Z"⟩, 87) := ⟨⟨by decide +kernel, by decide +kernel⟩, List.mem_of_getElem? (i := 1477) (by decide +kernel), List.mem_of_getElem? (i := 2182) (by decide +kernel), List.mem_of_getElem? (i := 2183) (by decide +kernel)⟩
theorem lw_p163 : lw_okq (⟨"OpcodeForgeModel", "hasHL", "(I)Z"⟩, 87) := ⟨⟨by decide +kernel, by decide +kernel⟩, List.mem_of_getElem? (i := 1477) (by decide +kernel), List.mem_of_getElem? (i := 2186) (by decide +kernel), List.mem_of_getElem? (i := 2187) (by decide +kernel)⟩
theorem lw_p164 : lw_okq (⟨"OpcodeForgeModel", "say", "(J)V"⟩, 87) := ⟨⟨by decide +kernel, by decide +kernel⟩, List.mem_of_getElem? (i := 1477) (by decide +kernel), List.mem_of_getElem? (i := 2191) (by decide +kernel), List.mem_of_getElem? (i := 2192) (by decide +kernel)⟩
theorem lw_p165 : lw_okq (⟨"OpcodeForgeModel", "one", "(I)V"⟩, 87) := ⟨⟨by decide +kernel, by decide +kernel⟩, List.mem_of_getElem? (i := 1477) (by decide +kernel), List.mem_of_getElem? (i := 2195) (by decide +kernel), List.mem_of_getElem? (i := 2196) (by decide +kernel)⟩
theorem lw_p166 : lw_okq (⟨"OpcodeForgeModel", "number", "(I)V"⟩, 87) := ⟨⟨by decide +kernel, by decide +kernel⟩, List.mem_of_getElem? (i := 1477) (by decide +kernel), List.mem_of_getElem? (i := 2199) (by decide +kernel), List.mem_of_getElem? (i := 2200) (by decide +kernel)⟩
theorem lw_p167 : lw_okq (⟨"OpcodeForgeModel", "write203", "()V"⟩, 87) := ⟨⟨by decide +kernel, by decide +kernel⟩, List.mem_of_getElem? (i := 1477) (by decide +kernel), List.mem_of_getElem? (i := 2203) (by decide +kernel), List.mem_of_getElem? (i := 2204) (by decide +kernel)⟩
theorem lw_p168 : lw_okq (⟨"OpcodeForgeModel", "octetName", "(I)V"⟩, 87) := ⟨⟨by decide +kernel, by decide +kernel⟩, List.mem_of_getElem? (i := 1477) (by decide +kernel), List.mem_of_getElem? (i := 2217) (by decide +kernel), List.mem_of_getElem? (i := 2218) (by decide +kernel)⟩
theorem lw_p169 : lw_okq (⟨"OpcodeForgeModel", "place", "()V"⟩, 87) := ⟨⟨by decide +kernel, by decide +kernel⟩, List.mem_of_getElem? (i := 1477) (by decide +kernel), List.mem_of_getElem? (i := 2221) (by decide +kernel), List.mem_of_getElem? (i := 2222) (by decide +kernel)⟩
theorem lw_p170 : lw_okq (⟨"OpcodeForgeModel", "indexName", "()V"⟩, 87) := ⟨⟨by decide +kernel, by decide +kernel⟩, List.mem_of_getElem? (i := 1477) (by decide +kernel), List.mem_of_getElem? (i := 2226) (by decide +kernel), List.mem_of_getElem? (i := 2227) (by decide +kernel)⟩
theorem lw_p171 : lw_okq (⟨"OpcodeForgeModel", "write237", "()V"⟩, 87) := ⟨⟨by decide +kernel, by decide +kernel⟩, List.mem_of_getElem? (i := 1477) (by decide +kernel), List.mem_of_getElem? (i := 2230) (by decide +kernel), List.mem_of_getElem? (i := 2231) (by decide +kernel)⟩
theorem lw_p172 : lw_okq (⟨"OpcodeForgeModel", "pairName", "(IZ)V"⟩, 87) := ⟨⟨by decide +kernel, by decide +kernel⟩, List.mem_of_getElem? (i := 1477) (by decide +kernel), List.mem_of_getElem? (i := 2240) (by decide +kernel), List.mem_of_getElem? (i := 2241) (by decide +kernel)⟩
theorem lw_p173 : lw_okq (⟨"OpcodeForgeModel", "placeM", "()V"⟩, 87) := ⟨⟨by decide +kernel, by decide +kernel⟩, List.mem_of_getElem? (i := 1477) (by decide +kernel), List.mem_of_getElem? (i := 2245) (by decide +kernel), List.mem_of_getElem? (i := 2246) (by decide +kernel)⟩
theorem lw_p174 : lw_okq (⟨"OpcodeForgeModel", "m", "()V"⟩, 87) := ⟨⟨by decide +kernel, by decide +kernel⟩, List.mem_of_getElem? (i := 1477) (by decide +kernel), List.mem_of_getElem? (i := 2249) (by decide +kernel), List.mem_of_getElem? (i := 2250) (by decide +kernel)⟩
theorem lw_p175 : lw_okq (⟨"OpcodeForgeModel", "wide", "(I)I"⟩, 87) := ⟨⟨by decide +kernel, by decide +kernel⟩, List.mem_of_getElem? (i := 1477) (by decide +kernel), List.mem_of_getElem? (i := 2253) (by decide +kernel), List.mem_of_getElem? (i := 2254) (by decide +kernel)⟩
def lw_privs_11 : List (MethodName × Nat) := [(⟨"OpcodeForgeModel", "isBehind237", "(I)Z"⟩, 87), (⟨"OpcodeForgeModel", "signed", "(I)I"⟩, 87), (⟨"OpcodeForgeModel", "hasPlace", "(I)Z"⟩, 87), (⟨"OpcodeForgeModel", "hasHL", "(I)Z"⟩, 87), (⟨"OpcodeForgeModel", "say", "(J)V"⟩, 87), (⟨"OpcodeForgeModel", "one", "(I)V"⟩, 87), (⟨"OpcodeForgeModel", "number", "(I)V"⟩, 87), (⟨"OpcodeForgeModel", "write203", "()V"⟩, 87), (⟨"OpcodeForgeModel", "octetName", "(I)V"⟩, 87), (⟨"OpcodeForgeModel", "place", "()V"⟩, 87), (⟨"OpcodeForgeModel", "indexName", "()V"⟩, 87), (⟨"OpcodeForgeModel", "write237", "()V"⟩, 87), (⟨"OpcodeForgeModel", "pairName", "(IZ)V"⟩, 87), (⟨"OpcodeForgeModel", "placeM", "()V"⟩, 87), (⟨"OpcodeForgeModel", "m", "()V"⟩, 87), (⟨"OpcodeForgeModel", "wide", "(I)I"⟩, 87)]
theorem lw_r11 : ∀ q ∈ lw_privs_11, lw_okq q := List.forall_mem_cons.mpr ⟨lw_p160, List.forall_mem_cons.mpr ⟨lw_p161, List.forall_mem_cons.mpr ⟨lw_p162, List.forall_mem_cons.mpr ⟨lw_p163, List.forall_mem_cons.mpr ⟨lw_p164, List.forall_mem_cons.mpr ⟨lw_p165, List.forall_mem_cons.mpr ⟨lw_p166, List.forall_mem_cons.mpr ⟨lw_p167, List.forall_mem_cons.mpr ⟨lw_p168, List.forall_mem_cons.mpr ⟨lw_p169, List.forall_mem_cons.mpr ⟨lw_p170, List.forall_mem_cons.mpr ⟨lw_p171, List.forall_mem_cons.mpr ⟨lw_p172, List.forall_mem_cons.mpr ⟨lw_p173, List.forall_mem_cons.mpr ⟨lw_p174, List.forall_mem_cons.mpr ⟨lw_p175, fun _ h => absurd h List.not_mem_nil⟩⟩⟩⟩⟩⟩⟩⟩⟩⟩⟩⟩⟩⟩⟩⟩
theorem lw_p176 : lw_okq (⟨"OpcodeForgeModel", "writeFirst", "(I)V"⟩, 87) := ⟨⟨by decide +kernel, by decide +kernel⟩, List.mem_of_getElem? (i := 1477) (by decide +kernel), List.mem_of_getElem? (i := 2262) (by decide +kernel), List.mem_of_getElem? (i := 2263) (by decide +kernel)⟩
theorem lw_p177 : lw_okq (⟨"OpcodeForgeModel", "conditionName", "(I)V"⟩, 87) := ⟨⟨by decide +kernel, by decide +kernel⟩, List.mem_of_getElem? (i := 1477) (by decide +kernel), List.mem_of_getElem? (i := 2269) (by decide +kernel), List.mem_of_getElem? (i := 2270) (by decide +kernel)⟩
theorem lw_p178 : lw_okq (⟨"OpcodeForgeModel", "near", "(I)V"⟩, 87) := ⟨⟨by decide +kernel, by decide +kernel⟩, List.mem_of_getElem? (i := 1477) (by decide +kernel), List.mem_of_getElem? (i := 2273) (by decide +kernel), List.mem_of_getElem? (i := 2274) (by decide +kernel)⟩
theorem lw_p179 : lw_okq (⟨"OpcodeForgeModel", "writeLoad", "(I)V"⟩, 87) := ⟨⟨by decide +kernel, by decide +kernel⟩, List.mem_of_getElem? (i := 1477) (by decide +kernel), List.mem_of_getElem? (i := 2278) (by decide +kernel), List.mem_of_getElem? (i := 2279) (by decide +kernel)⟩
theorem lw_p180 : lw_okq (⟨"OpcodeForgeModel", "n", "()V"⟩, 87) := ⟨⟨by decide +kernel, by decide +kernel⟩, List.mem_of_getElem? (i := 1477) (by decide +kernel), List.mem_of_getElem? (i := 2286) (by decide +kernel), List.mem_of_getElem? (i := 2287) (by decide +kernel)⟩
theorem lw_p181 : lw_okq (⟨"OpcodeForgeModel", "writeLast", "()V"⟩, 87) := ⟨⟨by decide +kernel, by decide +kernel⟩, List.mem_of_getElem? (i := 1477) (by decide +kernel), List.mem_of_getElem? (i := 2290) (by decide +kernel), List.mem_of_getElem? (i := 2291) (by decide +kernel)⟩
theorem lw_p182 : lw_okq (⟨"OpcodeForgeModel", "writeThird", "(I)V"⟩, 87) := ⟨⟨by decide +kernel, by decide +kernel⟩, List.mem_of_getElem? (i := 1477) (by decide +kernel), List.mem_of_getElem? (i := 2300) (by decide +kernel), List.mem_of_getElem? (i := 2301) (by decide +kernel)⟩
theorem lw_p183 : lw_okq (⟨"OpcodeForgeModel", "sumName", "(I)V"⟩, 87) := ⟨⟨by decide +kernel, by decide +kernel⟩, List.mem_of_getElem? (i := 1477) (by decide +kernel), List.mem_of_getElem? (i := 2310) (by decide +kernel), List.mem_of_getElem? (i := 2311) (by decide +kernel)⟩
theorem lw_p184 : lw_okq (⟨"OpcodeForgeModel", "at", "(I)I"⟩, 87) := ⟨⟨by decide +kernel, by decide +kernel⟩, List.mem_of_getElem? (i := 1477) (by decide +kernel), List.mem_of_getElem? (i := 2348) (by decide +kernel), List.mem_of_getElem? (i := 2349) (by decide +kernel)⟩
theorem lw_p185 : lw_okq (⟨"OpcodeForgeModel", "two", "(I)I"⟩, 87) := ⟨⟨by decide +kernel, by decide +kernel⟩, List.mem_of_getElem? (i := 1477) (by decide +kernel), List.mem_of_getElem? (i := 2352) (by decide +kernel), List.mem_of_getElem? (i := 2353) (by decide +kernel)⟩
theorem lw_p186 : lw_okq (⟨"OpcodeForgeModel", "setTwo", "(II)V"⟩, 87) := ⟨⟨by decide +kernel, by decide +kernel⟩, List.mem_of_getElem? (i := 1477) (by decide +kernel), List.mem_of_getElem? (i := 2360) (by decide +kernel), List.mem_of_getElem? (i := 2361) (by decide +kernel)⟩
theorem lw_p187 : lw_okq (⟨"OpcodeForgeModel", "takeRequest", "()Z"⟩, 87) := ⟨⟨by decide +kernel, by decide +kernel⟩, List.mem_of_getElem? (i := 1477) (by decide +kernel), List.mem_of_getElem? (i := 2384) (by decide +kernel), List.mem_of_getElem? (i := 2385) (by decide +kernel)⟩
theorem lw_p188 : lw_okq (⟨"OpcodeForgeModel", "goOn", "(I)V"⟩, 87) := ⟨⟨by decide +kernel, by decide +kernel⟩, List.mem_of_getElem? (i := 1477) (by decide +kernel), List.mem_of_getElem? (i := 2388) (by decide +kernel), List.mem_of_getElem? (i := 2389) (by decide +kernel)⟩
theorem lw_p189 : lw_okq (⟨"OpcodeForgeModel", "pushTwo", "(I)V"⟩, 87) := ⟨⟨by decide +kernel, by decide +kernel⟩, List.mem_of_getElem? (i := 1477) (by decide +kernel), List.mem_of_getElem? (i := 2392) (by decide +kernel), List.mem_of_getElem? (i := 2393) (by decide +kernel)⟩
theorem lw_p190 : lw_okq (⟨"OpcodeForgeModel", "store", "(II)V"⟩, 87) := ⟨⟨by decide +kernel, by decide +kernel⟩, List.mem_of_getElem? (i := 1477) (by decide +kernel), List.mem_of_getElem? (i := 2396) (by decide +kernel), List.mem_of_getElem? (i := 2397) (by decide +kernel)⟩
theorem lw_p191 : lw_okq (⟨"OpcodeForgeModel", "do203", "()V"⟩, 87) := ⟨⟨by decide +kernel, by decide +kernel⟩, List.mem_of_getElem? (i := 1477) (by decide +kernel), List.mem_of_getElem? (i := 2400) (by decide +kernel), List.mem_of_getElem? (i := 2401) (by decide +kernel)⟩
def lw_privs_12 : List (MethodName × Nat) := [(⟨"OpcodeForgeModel", "writeFirst", "(I)V"⟩, 87), (⟨"OpcodeForgeModel", "conditionName", "(I)V"⟩, 87), (⟨"OpcodeForgeModel", "near", "(I)V"⟩, 87), (⟨"OpcodeForgeModel", "writeLoad", "(I)V"⟩, 87), (⟨"OpcodeForgeModel", "n", "()V"⟩, 87), (⟨"OpcodeForgeModel", "writeLast", "()V"⟩, 87), (⟨"OpcodeForgeModel", "writeThird", "(I)V"⟩, 87), (⟨"OpcodeForgeModel", "sumName", "(I)V"⟩, 87), (⟨"OpcodeForgeModel", "at", "(I)I"⟩, 87), (⟨"OpcodeForgeModel", "two", "(I)I"⟩, 87), (⟨"OpcodeForgeModel", "setTwo", "(II)V"⟩, 87), (⟨"OpcodeForgeModel", "takeRequest", "()Z"⟩, 87), (⟨"OpcodeForgeModel", "goOn", "(I)V"⟩, 87), (⟨"OpcodeForgeModel", "pushTwo", "(I)V"⟩, 87), (⟨"OpcodeForgeModel", "store", "(II)V"⟩, 87), (⟨"OpcodeForgeModel", "do203", "()V"⟩, 87)]
theorem lw_r12 : ∀ q ∈ lw_privs_12, lw_okq q := List.forall_mem_cons.mpr ⟨lw_p176, List.forall_mem_cons.mpr ⟨lw_p177, List.forall_mem_cons.mpr ⟨lw_p178, List.forall_mem_cons.mpr ⟨lw_p179, List.forall_mem_cons.mpr ⟨lw_p180, List.forall_mem_cons.mpr ⟨lw_p181, List.forall_mem_cons.mpr ⟨lw_p182, List.forall_mem_cons.mpr ⟨lw_p183, List.forall_mem_cons.mpr ⟨lw_p184, List.forall_mem_cons.mpr ⟨lw_p185, List.forall_mem_cons.mpr ⟨lw_p186, List.forall_mem_cons.mpr ⟨lw_p187, List.forall_mem_cons.mpr ⟨lw_p188, List.forall_mem_cons.mpr ⟨lw_p189, List.forall_mem_cons.mpr ⟨lw_p190, List.forall_mem_cons.mpr ⟨lw_p191, fun _ h => absurd h List.not_mem_nil⟩⟩⟩⟩⟩⟩⟩⟩⟩⟩⟩⟩⟩⟩⟩⟩
theorem lw_p192 : lw_okq (⟨"OpcodeForgeModel", "octetAt", "(I)I"⟩, 87) := ⟨⟨by decide +kernel, by decide +kernel⟩, List.mem_of_getElem? (i := 1477) (by decide +kernel), List.mem_of_getElem? (i := 2404) (by decide +kernel), List.mem_of_getElem? (i := 2405) (by decide +kernel)⟩
theorem lw_p193 : lw_okq (⟨"OpcodeForgeModel", "placeAt", "()I"⟩, 87) := ⟨⟨by decide +kernel, by decide +kernel⟩, List.mem_of_getElem? (i := 1477) (by decide +kernel), List.mem_of_getElem? (i := 2408) (by decide +kernel), List.mem_of_getElem? (i := 2409) (by decide +kernel)⟩
theorem lw_p194 : lw_okq (⟨"OpcodeForgeModel", "turned", "(II)I"⟩, 87) := ⟨⟨by decide +kernel, by decide +kernel⟩, List.mem_of_getElem? (i := 1477) (by decide +kernel), List.mem_of_getElem? (i := 2412) (by decide +kernel), List.mem_of_getElem? (i := 2413) (by decide +kernel)⟩
theorem lw_p195 : lw_okq (⟨"OpcodeForgeModel", "signs", "(I)I"⟩, 87) := ⟨⟨by decide +kernel, by decide +kernel⟩, List.mem_of_getElem? (i := 1477) (by decide +kernel), List.mem_of_getElem? (i := 2416) (by decide +kernel), List.mem_of_getElem? (i := 2417) (by decide +kernel)⟩
theorem lw_p196 : lw_okq (⟨"OpcodeForgeModel", "parity", "(I)I"⟩, 87) := ⟨⟨by decide +kernel, by decide +kernel⟩, List.mem_of_getElem? (i := 1477) (by decide +kernel), List.mem_of_getElem? (i := 2420) (by decide +kernel), List.mem_of_getElem? (i := 2421) (by decide +kernel)⟩
theorem lw_p197 : lw_okq (⟨"OpcodeForgeModel", "setOctet", "(II)V"⟩, 87) := ⟨⟨by decide +kernel, by decide +kernel⟩, List.mem_of_getElem? (i := 1477) (by decide +kernel), List.mem_of_getElem? (i := 2424) (by decide +kernel), List.mem_of_getElem? (i := 2425) (by decide +kernel)⟩
theorem lw_p198 : lw_okq (⟨"OpcodeForgeModel", "do237", "(I)V"⟩, 87) := ⟨⟨by decide +kernel, by decide +kernel⟩, List.mem_of_getElem? (i := 1477) (by decide +kernel), List.mem_of_getElem? (i := 2428) (by decide +kernel), List.mem_of_getElem? (i := 2429) (by decide +kernel)⟩
theorem lw_p199 : lw_okq (⟨"OpcodeForgeModel", "doBlock", "(III)V"⟩, 87) := ⟨⟨by decide +kernel, by decide +kernel⟩, List.mem_of_getElem? (i := 1477) (by decide +kernel), List.mem_of_getElem? (i := 2432) (by decide +kernel), List.mem_of_getElem? (i := 2433) (by decide +kernel)⟩
theorem lw_p200 : lw_okq (⟨"OpcodeForgeModel", "difference", "(III)I"⟩, 87) := ⟨⟨by decide +kernel, by decide +kernel⟩, List.mem_of_getElem? (i := 1477) (by decide +kernel), List.mem_of_getElem? (i := 2436) (by decide +kernel), List.mem_of_getElem? (i := 2437) (by decide +kernel)⟩
theorem lw_p201 : lw_okq (⟨"OpcodeForgeModel", "portFlags", "(II)V"⟩, 87) := ⟨⟨by decide +kernel, by decide +kernel⟩, List.mem_of_getElem? (i := 1477) (by decide +kernel), List.mem_of_getElem? (i := 2440) (by decide +kernel), List.mem_of_getElem? (i := 2441) (by decide +kernel)⟩
theorem lw_p202 : lw_okq (⟨"OpcodeForgeModel", "outPort", "(II)V"⟩, 87) := ⟨⟨by decide +kernel, by decide +kernel⟩, List.mem_of_getElem? (i := 1477) (by decide +kernel), List.mem_of_getElem? (i := 2444) (by decide +kernel), List.mem_of_getElem? (i := 2445) (by decide +kernel)⟩
theorem lw_p203 : lw_okq (⟨"OpcodeForgeModel", "pairAt", "(I)I"⟩, 87) := ⟨⟨by decide +kernel, by decide +kernel⟩, List.mem_of_getElem? (i := 1477) (by decide +kernel), List.mem_of_getElem? (i := 2448) (by decide +kernel), List.mem_of_getElem? (i := 2449) (by decide +kernel)⟩
theorem lw_p204 : lw_okq (⟨"OpcodeForgeModel", "base", "()I"⟩, 87) := ⟨⟨by decide +kernel, by decide +kernel⟩, List.mem_of_getElem? (i := 1477) (by decide +kernel), List.mem_of_getElem? (i := 2452) (by decide +kernel), List.mem_of_getElem? (i := 2453) (by decide +kernel)⟩
theorem lw_p205 : lw_okq (⟨"OpcodeForgeModel", "wideSum", "(IZ)V"⟩, 87) := ⟨⟨by decide +kernel, by decide +kernel⟩, List.mem_of_getElem? (i := 1477) (by decide +kernel), List.mem_of_getElem? (i := 2456) (by decide +kernel), List.mem_of_getElem? (i := 2457) (by decide +kernel)⟩
theorem lw_p206 : lw_okq (⟨"OpcodeForgeModel", "setPair", "(II)V"⟩, 87) := ⟨⟨by decide +kernel, by decide +kernel⟩, List.mem_of_getElem? (i := 1477) (by decide +kernel), List.mem_of_getElem? (i := 2461) (by decide +kernel), List.mem_of_getElem? (i := 2462) (by decide +kernel)⟩
theorem lw_p207 : lw_okq (⟨"OpcodeForgeModel", "setBase", "(I)V"⟩, 87) := ⟨⟨by decide +kernel, by decide +kernel⟩, List.mem_of_getElem? (i := 1477) (by decide +kernel), List.mem_of_getElem? (i := 2465) (by decide +kernel), List.mem_of_getElem? (i := 2466) (by decide +kernel)⟩
def lw_privs_13 : List (MethodName × Nat) := [(⟨"OpcodeForgeModel", "octetAt", "(I)I"⟩, 87), (⟨"OpcodeForgeModel", "placeAt", "()I"⟩, 87), (⟨"OpcodeForgeModel", "turned", "(II)I"⟩, 87), (⟨"OpcodeForgeModel", "signs", "(I)I"⟩, 87), (⟨"OpcodeForgeModel", "parity", "(I)I"⟩, 87), (⟨"OpcodeForgeModel", "setOctet", "(II)V"⟩, 87), (⟨"OpcodeForgeModel", "do237", "(I)V"⟩, 87), (⟨"OpcodeForgeModel", "doBlock", "(III)V"⟩, 87), (⟨"OpcodeForgeModel", "difference", "(III)I"⟩, 87), (⟨"OpcodeForgeModel", "portFlags", "(II)V"⟩, 87), (⟨"OpcodeForgeModel", "outPort", "(II)V"⟩, 87), (⟨"OpcodeForgeModel", "pairAt", "(I)I"⟩, 87), (⟨"OpcodeForgeModel", "base", "()I"⟩, 87), (⟨"OpcodeForgeModel", "wideSum", "(IZ)V"⟩, 87), (⟨"OpcodeForgeModel", "setPair", "(II)V"⟩, 87), (⟨"OpcodeForgeModel", "setBase", "(I)V"⟩, 87)]
theorem lw_r13 : ∀ q ∈ lw_privs_13, lw_okq q := List.forall_mem_cons.mpr ⟨lw_p192, List.forall_mem_cons.mpr ⟨lw_p193, List.forall_mem_cons.mpr ⟨lw_p194, List.forall_mem_cons.mpr ⟨lw_p195, List.forall_mem_cons.mpr ⟨lw_p196, List.forall_mem_cons.mpr ⟨lw_p197, List.forall_mem_cons.mpr ⟨lw_p198, List.forall_mem_cons.mpr ⟨lw_p199, List.forall_mem_cons.mpr ⟨lw_p200, List.forall_mem_cons.mpr ⟨lw_p201, List.forall_mem_cons.mpr ⟨lw_p202, List.forall_mem_cons.mpr ⟨lw_p203, List.forall_mem_cons.mpr ⟨lw_p204, List.forall_mem_cons.mpr ⟨lw_p205, List.forall_mem_cons.mpr ⟨lw_p206, List.forall_mem_cons.mpr ⟨lw_p207, fun _ h => absurd h List.not_mem_nil⟩⟩⟩⟩⟩⟩⟩⟩⟩⟩⟩⟩⟩⟩⟩⟩
theorem lw_p208 : lw_okq (⟨"OpcodeForgeModel", "popTwo", "()I"⟩, 87) := ⟨⟨by decide +kernel, by decide +kernel⟩, List.mem_of_getElem? (i := 1477) (by decide +kernel), List.mem_of_getElem? (i := 2469) (by decide +kernel), List.mem_of_getElem? (i := 2470) (by decide +kernel)⟩
theorem lw_p209 : lw_okq (⟨"OpcodeForgeModel", "doHalves", "(I)V"⟩, 87) := ⟨⟨by decide +kernel, by decide +kernel⟩, List.mem_of_getElem? (i := 1477) (by decide +kernel), List.mem_of_getElem? (i := 2473) (by decide +kernel), List.mem_of_getElem? (i := 2474) (by decide +kernel)⟩
theorem lw_p210 : lw_okq (⟨"OpcodeForgeModel", "doFirst", "()V"⟩, 87) := ⟨⟨by decide +kernel, by decide +kernel⟩, List.mem_of_getElem? (i := 1477) (by decide +kernel), List.mem_of_getElem? (i := 2477) (by decide +kernel), List.mem_of_getElem? (i := 2478) (by decide +kernel)⟩
theorem lw_p211 : lw_okq (⟨"OpcodeForgeModel", "doNear", "(I)V"⟩, 87) := ⟨⟨by decide +kernel, by decide +kernel⟩, List.mem_of_getElem? (i := 1477) (by decide +kernel), List.mem_of_getElem? (i := 2481) (by decide +kernel), List.mem_of_getElem? (i := 2482) (by decide +kernel)⟩
theorem lw_p212 : lw_okq (⟨"OpcodeForgeModel", "exchange", "(I)V"⟩, 87) := ⟨⟨by decide +kernel, by decide +kernel⟩, List.mem_of_getElem? (i := 1477) (by decide +kernel), List.mem_of_getElem? (i := 2485) (by decide +kernel), List.mem_of_getElem? (i := 2486) (by decide +kernel)⟩
theorem lw_p213 : lw_okq (⟨"OpcodeForgeModel", "holds", "(I)Z"⟩, 87) := ⟨⟨by decide +kernel, by decide +kernel⟩, List.mem_of_getElem? (i := 1477) (by decide +kernel), List.mem_of_getElem? (i := 2489) (by decide +kernel), List.mem_of_getElem? (i := 2490) (by decide +kernel)⟩
theorem lw_p214 : lw_okq (⟨"OpcodeForgeModel", "addPair", "(I)V"⟩, 87) := ⟨⟨by decide +kernel, by decide +kernel⟩, List.mem_of_getElem? (i := 1477) (by decide +kernel), List.mem_of_getElem? (i := 2493) (by decide +kernel), List.mem_of_getElem? (i := 2494) (by decide +kernel)⟩
theorem lw_p215 : lw_okq (⟨"OpcodeForgeModel", "doLoad", "(I)V"⟩, 87) := ⟨⟨by decide +kernel, by decide +kernel⟩, List.mem_of_getElem? (i := 1477) (by decide +kernel), List.mem_of_getElem? (i := 2497) (by decide +kernel), List.mem_of_getElem? (i := 2498) (by decide +kernel)⟩
theorem lw_p216 : lw_okq (⟨"OpcodeForgeModel", "stepUp", "(IZ)I"⟩, 87) := ⟨⟨by decide +kernel, by decide +kernel⟩, List.mem_of_getElem? (i := 1477) (by decide +kernel), List.mem_of_getElem? (i := 2501) (by decide +kernel), List.mem_of_getElem? (i := 2502) (by decide +kernel)⟩
theorem lw_p217 : lw_okq (⟨"OpcodeForgeModel", "sum", "(III)I"⟩, 87) := ⟨⟨by decide +kernel, by decide +kernel⟩, List.mem_of_getElem? (i := 1477) (by decide +kernel), List.mem_of_getElem? (i := 2505) (by decide +kernel), List.mem_of_getElem? (i := 2506) (by decide +kernel)⟩
theorem lw_p218 : lw_okq (⟨"OpcodeForgeModel", "doAlone", "(I)V"⟩, 87) := ⟨⟨by decide +kernel, by decide +kernel⟩, List.mem_of_getElem? (i := 1477) (by decide +kernel), List.mem_of_getElem? (i := 2509) (by decide +kernel), List.mem_of_getElem? (i := 2510) (by decide +kernel)⟩
theorem lw_p219 : lw_okq (⟨"OpcodeForgeModel", "adjust", "()V"⟩, 87) := ⟨⟨by decide +kernel, by decide +kernel⟩, List.mem_of_getElem? (i := 1477) (by decide +kernel), List.mem_of_getElem? (i := 2513) (by decide +kernel), List.mem_of_getElem? (i := 2514) (by decide +kernel)⟩
theorem lw_p220 : lw_okq (⟨"OpcodeForgeModel", "reckon", "(II)V"⟩, 87) := ⟨⟨by decide +kernel, by decide +kernel⟩, List.mem_of_getElem? (i := 1477) (by decide +kernel), List.mem_of_getElem? (i := 2517) (by decide +kernel), List.mem_of_getElem? (i := 2518) (by decide +kernel)⟩
theorem lw_p221 : lw_okq (⟨"OpcodeForgeModel", "doLast", "()V"⟩, 87) := ⟨⟨by decide +kernel, by decide +kernel⟩, List.mem_of_getElem? (i := 1477) (by decide +kernel), List.mem_of_getElem? (i := 2521) (by decide +kernel), List.mem_of_getElem? (i := 2522) (by decide +kernel)⟩
theorem lw_p222 : lw_okq (⟨"OpcodeForgeModel", "doReturns", "(IZ)V"⟩, 87) := ⟨⟨by decide +kernel, by decide +kernel⟩, List.mem_of_getElem? (i := 1477) (by decide +kernel), List.mem_of_getElem? (i := 2525) (by decide +kernel), List.mem_of_getElem? (i := 2526) (by decide +kernel)⟩
theorem lw_p223 : lw_okq (⟨"OpcodeForgeModel", "doThird", "(I)V"⟩, 87) := ⟨⟨by decide +kernel, by decide +kernel⟩, List.mem_of_getElem? (i := 1477) (by decide +kernel), List.mem_of_getElem? (i := 2529) (by decide +kernel), List.mem_of_getElem? (i := 2530) (by decide +kernel)⟩
def lw_privs_14 : List (MethodName × Nat) := [(⟨"OpcodeForgeModel", "popTwo", "()I"⟩, 87), (⟨"OpcodeForgeModel", "doHalves", "(I)V"⟩, 87), (⟨"OpcodeForgeModel", "doFirst", "()V"⟩, 87), (⟨"OpcodeForgeModel", "doNear", "(I)V"⟩, 87), (⟨"OpcodeForgeModel", "exchange", "(I)V"⟩, 87), (⟨"OpcodeForgeModel", "holds", "(I)Z"⟩, 87), (⟨"OpcodeForgeModel", "addPair", "(I)V"⟩, 87), (⟨"OpcodeForgeModel", "doLoad", "(I)V"⟩, 87), (⟨"OpcodeForgeModel", "stepUp", "(IZ)I"⟩, 87), (⟨"OpcodeForgeModel", "sum", "(III)I"⟩, 87), (⟨"OpcodeForgeModel", "doAlone", "(I)V"⟩, 87), (⟨"OpcodeForgeModel", "adjust", "()V"⟩, 87), (⟨"OpcodeForgeModel", "reckon", "(II)V"⟩, 87), (⟨"OpcodeForgeModel", "doLast", "()V"⟩, 87), (⟨"OpcodeForgeModel", "doReturns", "(IZ)V"⟩, 87), (⟨"OpcodeForgeModel", "doThird", "(I)V"⟩, 87)]
theorem lw_r14 : ∀ q ∈ lw_privs_14, lw_okq q := List.forall_mem_cons.mpr ⟨lw_p208, List.forall_mem_cons.mpr ⟨lw_p209, List.forall_mem_cons.mpr ⟨lw_p210, List.forall_mem_cons.mpr ⟨lw_p211, List.forall_mem_cons.mpr ⟨lw_p212, List.forall_mem_cons.mpr ⟨lw_p213, List.forall_mem_cons.mpr ⟨lw_p214, List.forall_mem_cons.mpr ⟨lw_p215, List.forall_mem_cons.mpr ⟨lw_p216, List.forall_mem_cons.mpr ⟨lw_p217, List.forall_mem_cons.mpr ⟨lw_p218, List.forall_mem_cons.mpr ⟨lw_p219, List.forall_mem_cons.mpr ⟨lw_p220, List.forall_mem_cons.mpr ⟨lw_p221, List.forall_mem_cons.mpr ⟨lw_p222, List.forall_mem_cons.mpr ⟨lw_p223, fun _ h => absurd h List.not_mem_nil⟩⟩⟩⟩⟩⟩⟩⟩⟩⟩⟩⟩⟩⟩⟩⟩
def lw_privs : List (MethodName × Nat) := lw_privs_1 ++ (lw_privs_2 ++ (lw_privs_3 ++ (lw_privs_4 ++ (lw_privs_5 ++ (lw_privs_6 ++ (lw_privs_7 ++ (lw_privs_8 ++ (lw_privs_9 ++ (lw_privs_10 ++ (lw_privs_11 ++ (lw_privs_12 ++ (lw_privs_13 ++ (lw_privs_14)))))))))))))
def lw_tbl : List Cond := k2_sels lw_privs ++ tables_1
theorem lw_privs_ok : ∀ q ∈ lw_privs, lw_okq q := by
  show ∀ q ∈ lw_privs_1 ++ (lw_privs_2 ++ (lw_privs_3 ++ (lw_privs_4 ++ (lw_privs_5 ++ (lw_privs_6 ++ (lw_privs_7 ++ (lw_privs_8 ++ (lw_privs_9 ++ (lw_privs_10 ++ (lw_privs_11 ++ (lw_privs_12 ++ (lw_privs_13 ++ (lw_privs_14))))))))))))), lw_okq q
  exact List.forall_mem_append.mpr ⟨lw_r1, List.forall_mem_append.mpr ⟨lw_r2, List.forall_mem_append.mpr ⟨lw_r3, List.forall_mem_append.mpr ⟨lw_r4, List.forall_mem_append.mpr ⟨lw_r5, List.forall_mem_append.mpr ⟨lw_r6, List.forall_mem_append.mpr ⟨lw_r7, List.forall_mem_append.mpr ⟨lw_r8, List.forall_mem_append.mpr ⟨lw_r9, List.forall_mem_append.mpr ⟨lw_r10, List.forall_mem_append.mpr ⟨lw_r11, List.forall_mem_append.mpr ⟨lw_r12, List.forall_mem_append.mpr ⟨lw_r13, lw_r14⟩⟩⟩⟩⟩⟩⟩⟩⟩⟩⟩⟩⟩
-- ===== end of PART A; then your names; then what follows =====
/-! ===== BEGIN words of one list among another's, by their places ===== -/
theorem goodIn_r {big : List Cond} (ws : List Cond) (ps : List Nat) (hp : ws = ps.filterMap (fun i => big[i]?)) (h : ws.all goodWord = true) : GoodIn big ws := by
  intro w hw
  have h1 := List.all_eq_true.mp h w hw
  rw [hp] at hw
  obtain ⟨i, -, hi⟩ := List.mem_filterMap.mp hw
  have hm : w ∈ big := by first | exact List.mem_of_getElem? hi | exact List.getElem?_mem hi
  exact ⟨hm, good_of_word h1⟩
theorem goodIn_app {big a b : List Cond} (ha : GoodIn big a) (hb : GoodIn big b) : GoodIn big (a ++ b) := fun w h => (List.mem_append.mp h).elim (ha w) (hb w)
theorem goodIn_ca {big a b : List Cond} {c : Cond} (ha : GoodIn big (c :: a)) (hb : GoodIn big b) : GoodIn big (c :: (a ++ b)) := fun w h => (List.mem_cons.mp h).elim (fun e => ha w (List.mem_cons.mpr (Or.inl e))) (fun h => (List.mem_append.mp h).elim (fun h => ha w (List.mem_cons.mpr (Or.inr h))) (hb w))
theorem goodIn_sub {big ws : List Cond} (hm : ∀ w ∈ ws, w ∈ big) (h : ws.all goodWord = true) : GoodIn big ws := fun w hw => ⟨hm w hw, good_of_word (List.all_eq_true.mp h w hw)⟩
/-! ===== END ===== -/

/-! ===== BEGIN printed: names, fields, word lists, decode rows ===== -/
def RX0 : String := "OpcodeForge$Conditions"
def TX0 : u_T := fun k => match k with
  | 0 => ("OpcodeForge$Conditions", "states", "[I", true)
  | _ => ("OpcodeForge$Conditions", "depth", "I", false)
def tyX0 : Nat → FieldType := fun k => match k with
  | 0 => .array .int
  | _ => .int
abbrev wsX00 : List Cond := u_ws RX0 TX0 2
theorem nmX0 : ∀ a, a < 2 → ∀ b, b < 2 → a ≠ b → (TX0 a).2.1 ≠ (TX0 b).2.1 := by decide +kernel
theorem tyX0_ok : ∀ k, k < 2 → parseFieldDescriptor (TX0 k).2.2.1 = some (tyX0 k) := by decide +kernel
abbrev cX0_init : ByteArray := prog_2_method_1_code
def yX0_init : MethodName := ⟨RX0, "<init>", "()V"⟩
abbrev cX0_begin : ByteArray := prog_2_method_2_code
def yX0_begin : MethodName := ⟨RX0, "begin", "()V"⟩
abbrev cX0_anyOpen : ByteArray := prog_2_method_3_code
def yX0_anyOpen : MethodName := ⟨RX0, "anyOpen", "()Z"⟩
abbrev cX0_latest : ByteArray := prog_2_method_4_code
def yX0_latest : MethodName := ⟨RX0, "latest", "()I"⟩
abbrev cX0_done : ByteArray := prog_2_method_5_code
def yX0_done : MethodName := ⟨RX0, "done", "()Z"⟩
abbrev cX0_allows : ByteArray := prog_2_method_6_code
def yX0_allows : MethodName := ⟨RX0, "allows", "(I)Z"⟩
abbrev cX0_pass : ByteArray := prog_2_method_7_code
def yX0_pass : MethodName := ⟨RX0, "pass", "(IZ)V"⟩
abbrev cX0_change : ByteArray := prog_2_method_8_code
def yX0_change : MethodName := ⟨RX0, "change", "(I)V"⟩
def RX1 : String := "OpcodeForge$Expression"
def TX1 : u_T := fun k => match k with
  | 0 => ("OpcodeForge$Expression", "tokens", "LOpcodeForge$Tokens;", true)
  | 1 => ("OpcodeForge$Expression", "names", "LOpcodeForge$Names;", true)
  | 2 => ("OpcodeForge$Expression", "waiting", "[I", true)
  | 3 => ("OpcodeForge$Expression", "waitingTokens", "[I", true)
  | 4 => ("OpcodeForge$Expression", "values", "[I", true)
  | 5 => ("OpcodeForge$Expression", "knowns", "[Z", true)
  | 6 => ("OpcodeForge$Expression", "waits", "I", false)
  | 7 => ("OpcodeForge$Expression", "depth", "I", false)
  | 8 => ("OpcodeForge$Expression", "opened", "I", false)
  | 9 => ("OpcodeForge$Expression", "parentheses", "I", false)
  | 10 => ("OpcodeForge$Expression", "here", "I", false)
  | 11 => ("OpcodeForge$Expression", "trouble", "I", false)
  | _ => ("OpcodeForge$Expression", "troubleToken", "I", false)
def tyX1 : Nat → FieldType := fun k => match k with
  | 0 => .object "OpcodeForge$Tokens"
  | 1 => .object "OpcodeForge$Names"
  | 2 => .array .int
  | 3 => .array .int
  | 4 => .array .int
  | 5 => .array .boolean
  | 6 => .int
  | 7 => .int
  | 8 => .int
  | 9 => .int
  | 10 => .int
  | 11 => .int
  | _ => .int
abbrev wsX10 : List Cond := u_ws RX1 TX1 13
theorem nmX1 : ∀ a, a < 13 → ∀ b, b < 13 → a ≠ b → (TX1 a).2.1 ≠ (TX1 b).2.1 := by decide +kernel
theorem tyX1_ok : ∀ k, k < 13 → parseFieldDescriptor (TX1 k).2.2.1 = some (tyX1 k) := by decide +kernel
abbrev cX1_init : ByteArray := prog_3_method_1_code
def yX1_init : MethodName := ⟨RX1, "<init>", "(LOpcodeForge$Tokens;LOpcodeForge$Names;)V"⟩
abbrev cX1_read : ByteArray := prog_3_method_2_code
def yX1_read : MethodName := ⟨RX1, "read", "(IIZ)I"⟩
abbrev cX1_begin : ByteArray := prog_3_method_3_code
def yX1_begin : MethodName := ⟨RX1, "begin", "(I)V"⟩
abbrev cX1_value : ByteArray := prog_3_method_4_code
def yX1_value : MethodName := ⟨RX1, "value", "()I"⟩
abbrev cX1_known : ByteArray := prog_3_method_5_code
def yX1_known : MethodName := ⟨RX1, "known", "()Z"⟩
abbrev cX1_levelOf : ByteArray := prog_3_method_6_code
def yX1_levelOf : MethodName := ⟨RX1, "levelOf", "(I)I"⟩
abbrev cX1_open : ByteArray := prog_3_method_7_code
def yX1_open : MethodName := ⟨RX1, "open", "(II)Z"⟩
abbrev cX1_close : ByteArray := prog_3_method_8_code
def yX1_close : MethodName := ⟨RX1, "close", "()V"⟩
abbrev cX1_hold : ByteArray := prog_3_method_9_code
def yX1_hold : MethodName := ⟨RX1, "hold", "(II)V"⟩
abbrev cX1_takeValue : ByteArray := prog_3_method_10_code
def yX1_takeValue : MethodName := ⟨RX1, "takeValue", "(II)Z"⟩
abbrev cX1_settle : ByteArray := prog_3_method_11_code
def yX1_settle : MethodName := ⟨RX1, "settle", "(I)V"⟩
abbrev cX1_turn : ByteArray := prog_3_method_12_code
def yX1_turn : MethodName := ⟨RX1, "turn", "(I)V"⟩
abbrev cX1_join : ByteArray := prog_3_method_13_code
def yX1_join : MethodName := ⟨RX1, "join", "(II)V"⟩
def RX2 : String := "OpcodeForge$Faults"
def TX2 : u_T := fun k => match k with
  | 0 => ("OpcodeForge$Faults", "line", "I", false)
  | 1 => ("OpcodeForge$Faults", "place", "I", false)
  | _ => ("OpcodeForge$Faults", "code", "I", false)
def tyX2 : Nat → FieldType := fun k => match k with
  | 0 => .int
  | 1 => .int
  | _ => .int
abbrev wsX20 : List Cond := u_ws RX2 TX2 3
theorem nmX2 : ∀ a, a < 3 → ∀ b, b < 3 → a ≠ b → (TX2 a).2.1 ≠ (TX2 b).2.1 := by decide +kernel
theorem tyX2_ok : ∀ k, k < 3 → parseFieldDescriptor (TX2 k).2.2.1 = some (tyX2 k) := by decide +kernel
abbrev cX2_init : ByteArray := prog_4_method_1_code
def yX2_init : MethodName := ⟨RX2, "<init>", "()V"⟩
abbrev cX2_begin : ByteArray := prog_4_method_2_code
def yX2_begin : MethodName := ⟨RX2, "begin", "()V"⟩
abbrev cX2_add : ByteArray := prog_4_method_3_code
def yX2_add : MethodName := ⟨RX2, "add", "(III)V"⟩
abbrev cX2_any : ByteArray := prog_4_method_4_code
def yX2_any : MethodName := ⟨RX2, "any", "()Z"⟩
abbrev cX2_line : ByteArray := prog_4_method_5_code
def yX2_line : MethodName := ⟨RX2, "line", "()I"⟩
abbrev cX2_place : ByteArray := prog_4_method_6_code
def yX2_place : MethodName := ⟨RX2, "place", "()I"⟩
abbrev cX2_code : ByteArray := prog_4_method_7_code
def yX2_code : MethodName := ⟨RX2, "code", "()I"⟩
def RX3 : String := "OpcodeForge$Forger"
def TX3 : u_T := fun k => match k with
  | 0 => ("OpcodeForge$Forger", "source", "LOpcodeForge$Text;", true)
  | 1 => ("OpcodeForge$Forger", "memory", "LOpcodeForge$Memory;", true)
  | 2 => ("OpcodeForge$Forger", "names", "LOpcodeForge$Names;", true)
  | 3 => ("OpcodeForge$Forger", "shapes", "LOpcodeForge$Shapes;", true)
  | 4 => ("OpcodeForge$Forger", "faults", "LOpcodeForge$Faults;", true)
  | 5 => ("OpcodeForge$Forger", "conditions", "LOpcodeForge$Conditions;", true)
  | 6 => ("OpcodeForge$Forger", "tokens", "LOpcodeForge$Tokens;", true)
  | 7 => ("OpcodeForge$Forger", "expression", "LOpcodeForge$Expression;", true)
  | 8 => ("OpcodeForge$Forger", "operands", "LOpcodeForge$Operands;", true)
  | 9 => ("OpcodeForge$Forger", "which", "I", false)
  | 10 => ("OpcodeForge$Forger", "line", "I", false)
  | 11 => ("OpcodeForge$Forger", "address", "I", false)
  | 12 => ("OpcodeForge$Forger", "puts", "I", false)
  | 13 => ("OpcodeForge$Forger", "firstPut", "I", false)
  | 14 => ("OpcodeForge$Forger", "toldLines", "I", false)
  | 15 => ("OpcodeForge$Forger", "toldFirst", "I", false)
  | _ => ("OpcodeForge$Forger", "toldBehind", "I", false)
def tyX3 : Nat → FieldType := fun k => match k with
  | 0 => .object "OpcodeForge$Text"
  | 1 => .object "OpcodeForge$Memory"
  | 2 => .object "OpcodeForge$Names"
  | 3 => .object "OpcodeForge$Shapes"
  | 4 => .object "OpcodeForge$Faults"
  | 5 => .object "OpcodeForge$Conditions"
  | 6 => .object "OpcodeForge$Tokens"
  | 7 => .object "OpcodeForge$Expression"
  | 8 => .object "OpcodeForge$Operands"
  | 9 => .int
  | 10 => .int
  | 11 => .int
  | 12 => .int
  | 13 => .int
  | 14 => .int
  | 15 => .int
  | _ => .int
abbrev wsX30 : List Cond := u_ws RX3 TX3 17
theorem nmX3 : ∀ a, a < 17 → ∀ b, b < 17 → a ≠ b → (TX3 a).2.1 ≠ (TX3 b).2.1 := by decide +kernel
theorem tyX3_ok : ∀ k, k < 17 → parseFieldDescriptor (TX3 k).2.2.1 = some (tyX3 k) := by decide +kernel
abbrev cX3_init : ByteArray := prog_5_method_1_code
def yX3_init : MethodName := ⟨RX3, "<init>", "(LOpcodeForge$Text;LOpcodeForge$Memory;LOpcodeForge$Names;LOpcodeForge$Shapes;)V"⟩
abbrev cX3_begin : ByteArray := prog_5_method_2_code
def yX3_begin : MethodName := ⟨RX3, "begin", "()V"⟩
abbrev cX3_failed : ByteArray := prog_5_method_3_code
def yX3_failed : MethodName := ⟨RX3, "failed", "()Z"⟩
abbrev cX3_answer : ByteArray := prog_5_method_4_code
def yX3_answer : MethodName := ⟨RX3, "answer", "()I"⟩
abbrev cX3_fact : ByteArray := prog_5_method_5_code
def yX3_fact : MethodName := ⟨RX3, "fact", "(I)I"⟩
abbrev cX3_pass : ByteArray := prog_5_method_6_code
def yX3_pass : MethodName := ⟨RX3, "pass", "(I)V"⟩
abbrev cX3_passOver : ByteArray := prog_5_method_7_code
def yX3_passOver : MethodName := ⟨RX3, "passOver", "(I)V"⟩
abbrev cX3_tellLabel : ByteArray := prog_5_method_8_code
def yX3_tellLabel : MethodName := ⟨RX3, "tellLabel", "()I"⟩
abbrev cX3_readStatement : ByteArray := prog_5_method_9_code
def yX3_readStatement : MethodName := ⟨RX3, "readStatement", "(I)V"⟩
abbrev cX3_canTell : ByteArray := prog_5_method_10_code
def yX3_canTell : MethodName := ⟨RX3, "canTell", "(I)Z"⟩
abbrev cX3_tell : ByteArray := prog_5_method_11_code
def yX3_tell : MethodName := ⟨RX3, "tell", "(II)V"⟩
abbrev cX3_endsLine : ByteArray := prog_5_method_12_code
def yX3_endsLine : MethodName := ⟨RX3, "endsLine", "(I)Z"⟩
abbrev cX3_readNumber : ByteArray := prog_5_method_13_code
def yX3_readNumber : MethodName := ⟨RX3, "readNumber", "(IIII)I"⟩
abbrev cX3_equate : ByteArray := prog_5_method_14_code
def yX3_equate : MethodName := ⟨RX3, "equate", "(I)V"⟩
abbrev cX3_origin : ByteArray := prog_5_method_15_code
def yX3_origin : MethodName := ⟨RX3, "origin", "(I)V"⟩
abbrev cX3_data : ByteArray := prog_5_method_16_code
def yX3_data : MethodName := ⟨RX3, "data", "(IZ)V"⟩
abbrev cX3_space : ByteArray := prog_5_method_17_code
def yX3_space : MethodName := ⟨RX3, "space", "(I)V"⟩
abbrev cX3_condition : ByteArray := prog_5_method_18_code
def yX3_condition : MethodName := ⟨RX3, "condition", "(II)V"⟩
abbrev cX3_instruction : ByteArray := prog_5_method_19_code
def yX3_instruction : MethodName := ⟨RX3, "instruction", "(II)V"⟩
abbrev cX3_checkOperands : ByteArray := prog_5_method_20_code
def yX3_checkOperands : MethodName := ⟨RX3, "checkOperands", "(II)V"⟩
abbrev cX3_distance : ByteArray := prog_5_method_21_code
def yX3_distance : MethodName := ⟨RX3, "distance", "(II)I"⟩
abbrev cX3_fits : ByteArray := prog_5_method_22_code
def yX3_fits : MethodName := ⟨RX3, "fits", "(II)Z"⟩
abbrev cX3_putInstruction : ByteArray := prog_5_method_23_code
def yX3_putInstruction : MethodName := ⟨RX3, "putInstruction", "(II)V"⟩
abbrev cX3_leadOf : ByteArray := prog_5_method_24_code
def yX3_leadOf : MethodName := ⟨RX3, "leadOf", "(I)I"⟩
abbrev cX3_withinOpcode : ByteArray := prog_5_method_25_code
def yX3_withinOpcode : MethodName := ⟨RX3, "withinOpcode", "(II)I"⟩
abbrev cX3_putNumber : ByteArray := prog_5_method_26_code
def yX3_putNumber : MethodName := ⟨RX3, "putNumber", "(III)V"⟩
abbrev cX3_putText : ByteArray := prog_5_method_27_code
def yX3_putText : MethodName := ⟨RX3, "putText", "(II)V"⟩
abbrev cX3_count : ByteArray := prog_5_method_28_code
def yX3_count : MethodName := ⟨RX3, "count", "(II)V"⟩
abbrev cX3_goOn : ByteArray := prog_5_method_29_code
def yX3_goOn : MethodName := ⟨RX3, "goOn", "(II)V"⟩
def RX4 : String := "OpcodeForge$Instruction"
def TX4 : u_T := fun k => match k with
  | 0 => ("OpcodeForge$Instruction", "memory", "LOpcodeForge$Memory;", true)
  | 1 => ("OpcodeForge$Instruction", "shapes", "LOpcodeForge$Shapes;", true)
  | 2 => ("OpcodeForge$Instruction", "names", "LOpcodeForge$Names;", true)
  | 3 => ("OpcodeForge$Instruction", "exists", "Z", false)
  | 4 => ("OpcodeForge$Instruction", "opcode", "I", false)
  | 5 => ("OpcodeForge$Instruction", "word", "I", false)
  | 6 => ("OpcodeForge$Instruction", "first", "I", false)
  | 7 => ("OpcodeForge$Instruction", "second", "I", false)
  | 8 => ("OpcodeForge$Instruction", "distance", "I", false)
  | 9 => ("OpcodeForge$Instruction", "number", "I", false)
  | _ => ("OpcodeForge$Instruction", "size", "I", false)
def tyX4 : Nat → FieldType := fun k => match k with
  | 0 => .object "OpcodeForge$Memory"
  | 1 => .object "OpcodeForge$Shapes"
  | 2 => .object "OpcodeForge$Names"
  | 3 => .boolean
  | 4 => .int
  | 5 => .int
  | 6 => .int
  | 7 => .int
  | 8 => .int
  | 9 => .int
  | _ => .int
abbrev wsX40 : List Cond := u_ws RX4 TX4 11
theorem nmX4 : ∀ a, a < 11 → ∀ b, b < 11 → a ≠ b → (TX4 a).2.1 ≠ (TX4 b).2.1 := by decide +kernel
theorem tyX4_ok : ∀ k, k < 11 → parseFieldDescriptor (TX4 k).2.2.1 = some (tyX4 k) := by decide +kernel
abbrev cX4_init : ByteArray := prog_6_method_1_code
def yX4_init : MethodName := ⟨RX4, "<init>", "(LOpcodeForge$Memory;LOpcodeForge$Shapes;LOpcodeForge$Names;)V"⟩
abbrev cX4_look : ByteArray := prog_6_method_2_code
def yX4_look : MethodName := ⟨RX4, "look", "(I)V"⟩
abbrev cX4_groupOf : ByteArray := prog_6_method_3_code
def yX4_groupOf : MethodName := ⟨RX4, "groupOf", "(I)I"⟩
abbrev cX4_isNear : ByteArray := prog_6_method_4_code
def yX4_isNear : MethodName := ⟨RX4, "isNear", "(I)Z"⟩
abbrev cX4_isNumber : ByteArray := prog_6_method_5_code
def yX4_isNumber : MethodName := ⟨RX4, "isNumber", "(I)Z"⟩
abbrev cX4_numberOf : ByteArray := prog_6_method_6_code
def yX4_numberOf : MethodName := ⟨RX4, "numberOf", "(II)I"⟩
abbrev cX4_exists : ByteArray := prog_6_method_7_code
def yX4_exists : MethodName := ⟨RX4, "exists", "()Z"⟩
abbrev cX4_word : ByteArray := prog_6_method_8_code
def yX4_word : MethodName := ⟨RX4, "word", "()I"⟩
abbrev cX4_first : ByteArray := prog_6_method_9_code
def yX4_first : MethodName := ⟨RX4, "first", "()I"⟩
abbrev cX4_second : ByteArray := prog_6_method_10_code
def yX4_second : MethodName := ⟨RX4, "second", "()I"⟩
abbrev cX4_distance : ByteArray := prog_6_method_11_code
def yX4_distance : MethodName := ⟨RX4, "distance", "()I"⟩
abbrev cX4_number : ByteArray := prog_6_method_12_code
def yX4_number : MethodName := ⟨RX4, "number", "()I"⟩
abbrev cX4_size : ByteArray := prog_6_method_13_code
def yX4_size : MethodName := ⟨RX4, "size", "()I"⟩
abbrev cX4_appendTo : ByteArray := prog_6_method_14_code
def yX4_appendTo : MethodName := ⟨RX4, "appendTo", "(LOpcodeForge$Text;)V"⟩
abbrev cX4_appendOperand : ByteArray := prog_6_method_15_code
def yX4_appendOperand : MethodName := ⟨RX4, "appendOperand", "(LOpcodeForge$Text;I)V"⟩
abbrev cX4_insideOf : ByteArray := prog_6_method_16_code
def yX4_insideOf : MethodName := ⟨RX4, "insideOf", "(I)I"⟩
def RX5 : String := "OpcodeForge$Machine"
def TX5 : u_T := fun k => match k with
  | 0 => ("OpcodeForge$Machine", "memory", "LOpcodeForge$Memory;", true)
  | 1 => ("OpcodeForge$Machine", "instruction", "LOpcodeForge$Instruction;", true)
  | 2 => ("OpcodeForge$Machine", "registers", "[I", true)
  | 3 => ("OpcodeForge$Machine", "inputs", "[I", true)
  | 4 => ("OpcodeForge$Machine", "outputs", "[I", true)
  | 5 => ("OpcodeForge$Machine", "outputCount", "J", false)
  | 6 => ("OpcodeForge$Machine", "plainWaits", "Z", false)
  | 7 => ("OpcodeForge$Machine", "hardWaits", "Z", false)
  | 8 => ("OpcodeForge$Machine", "plainOctet", "I", false)
  | _ => ("OpcodeForge$Machine", "justEnabled", "Z", false)
def tyX5 : Nat → FieldType := fun k => match k with
  | 0 => .object "OpcodeForge$Memory"
  | 1 => .object "OpcodeForge$Instruction"
  | 2 => .array .int
  | 3 => .array .int
  | 4 => .array .int
  | 5 => .long
  | 6 => .boolean
  | 7 => .boolean
  | 8 => .int
  | _ => .boolean
abbrev wsX50 : List Cond := u_ws RX5 TX5 10
theorem nmX5 : ∀ a, a < 10 → ∀ b, b < 10 → a ≠ b → (TX5 a).2.1 ≠ (TX5 b).2.1 := by decide +kernel
theorem tyX5_ok : ∀ k, k < 10 → parseFieldDescriptor (TX5 k).2.2.1 = some (tyX5 k) := by decide +kernel
abbrev cX5_init : ByteArray := prog_7_method_1_code
def yX5_init : MethodName := ⟨RX5, "<init>", "(LOpcodeForge$Memory;LOpcodeForge$Instruction;)V"⟩
abbrev cX5_reset : ByteArray := prog_7_method_2_code
def yX5_reset : MethodName := ⟨RX5, "reset", "()V"⟩
abbrev cX5_registerAt : ByteArray := prog_7_method_3_code
def yX5_registerAt : MethodName := ⟨RX5, "registerAt", "(I)I"⟩
abbrev cX5_mostOf : ByteArray := prog_7_method_4_code
def yX5_mostOf : MethodName := ⟨RX5, "mostOf", "(I)I"⟩
abbrev cX5_changeRegister : ByteArray := prog_7_method_5_code
def yX5_changeRegister : MethodName := ⟨RX5, "changeRegister", "(II)I"⟩
abbrev cX5_changeInput : ByteArray := prog_7_method_6_code
def yX5_changeInput : MethodName := ⟨RX5, "changeInput", "(II)I"⟩
abbrev cX5_outputAt : ByteArray := prog_7_method_7_code
def yX5_outputAt : MethodName := ⟨RX5, "outputAt", "(I)I"⟩
abbrev cX5_outputs : ByteArray := prog_7_method_8_code
def yX5_outputs : MethodName := ⟨RX5, "outputs", "()J"⟩
abbrev cX5_await : ByteArray := prog_7_method_9_code
def yX5_await : MethodName := ⟨RX5, "await", "(ZI)Z"⟩
abbrev cX5_advance : ByteArray := prog_7_method_10_code
def yX5_advance : MethodName := ⟨RX5, "advance", "()I"⟩
abbrev cX5_refresh : ByteArray := prog_7_method_11_code
def yX5_refresh : MethodName := ⟨RX5, "refresh", "(I)V"⟩
abbrev cX5_takeRequest : ByteArray := prog_7_method_12_code
def yX5_takeRequest : MethodName := ⟨RX5, "takeRequest", "()V"⟩
abbrev cX5_execute : ByteArray := prog_7_method_13_code
def yX5_execute : MethodName := ⟨RX5, "execute", "(IIII)V"⟩
abbrev cX5_executeFlow : ByteArray := prog_7_method_14_code
def yX5_executeFlow : MethodName := ⟨RX5, "executeFlow", "(III)V"⟩
abbrev cX5_executeRest : ByteArray := prog_7_method_15_code
def yX5_executeRest : MethodName := ⟨RX5, "executeRest", "(I)V"⟩
abbrev cX5_flags : ByteArray := prog_7_method_16_code
def yX5_flags : MethodName := ⟨RX5, "flags", "()I"⟩
abbrev cX5_setFlags : ByteArray := prog_7_method_17_code
def yX5_setFlags : MethodName := ⟨RX5, "setFlags", "(I)V"⟩
abbrev cX5_signsOf : ByteArray := prog_7_method_18_code
def yX5_signsOf : MethodName := ⟨RX5, "signsOf", "(I)I"⟩
abbrev cX5_parityOf : ByteArray := prog_7_method_19_code
def yX5_parityOf : MethodName := ⟨RX5, "parityOf", "(I)I"⟩
abbrev cX5_load : ByteArray := prog_7_method_20_code
def yX5_load : MethodName := ⟨RX5, "load", "(I)I"⟩
abbrev cX5_save : ByteArray := prog_7_method_21_code
def yX5_save : MethodName := ⟨RX5, "save", "(II)V"⟩
abbrev cX5_addressOf : ByteArray := prog_7_method_22_code
def yX5_addressOf : MethodName := ⟨RX5, "addressOf", "(I)I"⟩
abbrev cX5_pairOf : ByteArray := prog_7_method_23_code
def yX5_pairOf : MethodName := ⟨RX5, "pairOf", "(I)I"⟩
abbrev cX5_pair : ByteArray := prog_7_method_24_code
def yX5_pair : MethodName := ⟨RX5, "pair", "(I)I"⟩
abbrev cX5_savePair : ByteArray := prog_7_method_25_code
def yX5_savePair : MethodName := ⟨RX5, "savePair", "(II)V"⟩
abbrev cX5_push : ByteArray := prog_7_method_26_code
def yX5_push : MethodName := ⟨RX5, "push", "(I)V"⟩
abbrev cX5_pop : ByteArray := prog_7_method_27_code
def yX5_pop : MethodName := ⟨RX5, "pop", "()I"⟩
abbrev cX5_swap : ByteArray := prog_7_method_28_code
def yX5_swap : MethodName := ⟨RX5, "swap", "(II)V"⟩
abbrev cX5_exchange : ByteArray := prog_7_method_29_code
def yX5_exchange : MethodName := ⟨RX5, "exchange", "(II)V"⟩
abbrev cX5_transfer : ByteArray := prog_7_method_30_code
def yX5_transfer : MethodName := ⟨RX5, "transfer", "(II)V"⟩
abbrev cX5_isCondition : ByteArray := prog_7_method_31_code
def yX5_isCondition : MethodName := ⟨RX5, "isCondition", "(I)Z"⟩
abbrev cX5_holds : ByteArray := prog_7_method_32_code
def yX5_holds : MethodName := ⟨RX5, "holds", "(I)Z"⟩
abbrev cX5_jump : ByteArray := prog_7_method_33_code
def yX5_jump : MethodName := ⟨RX5, "jump", "(II)V"⟩
abbrev cX5_calculate : ByteArray := prog_7_method_34_code
def yX5_calculate : MethodName := ⟨RX5, "calculate", "(III)V"⟩
abbrev cX5_sum : ByteArray := prog_7_method_35_code
def yX5_sum : MethodName := ⟨RX5, "sum", "(III)I"⟩
abbrev cX5_difference : ByteArray := prog_7_method_36_code
def yX5_difference : MethodName := ⟨RX5, "difference", "(III)I"⟩
abbrev cX5_combine : ByteArray := prog_7_method_37_code
def yX5_combine : MethodName := ⟨RX5, "combine", "(II)V"⟩
abbrev cX5_calculateWide : ByteArray := prog_7_method_38_code
def yX5_calculateWide : MethodName := ⟨RX5, "calculateWide", "(IIII)V"⟩
abbrev cX5_change : ByteArray := prog_7_method_39_code
def yX5_change : MethodName := ⟨RX5, "change", "(II)V"⟩
abbrev cX5_moved : ByteArray := prog_7_method_40_code
def yX5_moved : MethodName := ⟨RX5, "moved", "(II)I"⟩
abbrev cX5_movedOut : ByteArray := prog_7_method_41_code
def yX5_movedOut : MethodName := ⟨RX5, "movedOut", "(II)I"⟩
abbrev cX5_turnA : ByteArray := prog_7_method_42_code
def yX5_turnA : MethodName := ⟨RX5, "turnA", "(I)V"⟩
abbrev cX5_turn : ByteArray := prog_7_method_43_code
def yX5_turn : MethodName := ⟨RX5, "turn", "(II)V"⟩
abbrev cX5_handleBit : ByteArray := prog_7_method_44_code
def yX5_handleBit : MethodName := ⟨RX5, "handleBit", "(II)V"⟩
abbrev cX5_adjust : ByteArray := prog_7_method_45_code
def yX5_adjust : MethodName := ⟨RX5, "adjust", "(II)V"⟩
abbrev cX5_turnHalves : ByteArray := prog_7_method_46_code
def yX5_turnHalves : MethodName := ⟨RX5, "turnHalves", "(ZII)V"⟩
abbrev cX5_putOut : ByteArray := prog_7_method_47_code
def yX5_putOut : MethodName := ⟨RX5, "putOut", "(II)V"⟩
abbrev cX5_takeIn : ByteArray := prog_7_method_48_code
def yX5_takeIn : MethodName := ⟨RX5, "takeIn", "(II)V"⟩
abbrev cX5_handleBlock : ByteArray := prog_7_method_49_code
def yX5_handleBlock : MethodName := ⟨RX5, "handleBlock", "(III)V"⟩
abbrev cX5_moveOn : ByteArray := prog_7_method_50_code
def yX5_moveOn : MethodName := ⟨RX5, "moveOn", "(II)V"⟩
abbrev cX5_blockFlags : ByteArray := prog_7_method_51_code
def yX5_blockFlags : MethodName := ⟨RX5, "blockFlags", "(I)I"⟩
abbrev cX5_moveBlock : ByteArray := prog_7_method_52_code
def yX5_moveBlock : MethodName := ⟨RX5, "moveBlock", "(I)Z"⟩
abbrev cX5_compareBlock : ByteArray := prog_7_method_53_code
def yX5_compareBlock : MethodName := ⟨RX5, "compareBlock", "(I)Z"⟩
abbrev cX5_portBlock : ByteArray := prog_7_method_54_code
def yX5_portBlock : MethodName := ⟨RX5, "portBlock", "(ZI)Z"⟩
def RX6 : String := "OpcodeForge$Memory"
def TX6 : u_T := fun k => match k with
  | _ => ("OpcodeForge$Memory", "octets", "[B", true)
def tyX6 : Nat → FieldType := fun k => match k with
  | _ => .array .byte
abbrev wsX60 : List Cond := u_ws RX6 TX6 1
theorem nmX6 : ∀ a, a < 1 → ∀ b, b < 1 → a ≠ b → (TX6 a).2.1 ≠ (TX6 b).2.1 := by decide +kernel
theorem tyX6_ok : ∀ k, k < 1 → parseFieldDescriptor (TX6 k).2.2.1 = some (tyX6 k) := by decide +kernel
abbrev cX6_init : ByteArray := prog_8_method_1_code
def yX6_init : MethodName := ⟨RX6, "<init>", "()V"⟩
abbrev cX6_at : ByteArray := prog_8_method_2_code
def yX6_at : MethodName := ⟨RX6, "at", "(I)I"⟩
abbrev cX6_wordAt : ByteArray := prog_8_method_3_code
def yX6_wordAt : MethodName := ⟨RX6, "wordAt", "(I)I"⟩
abbrev cX6_store : ByteArray := prog_8_method_4_code
def yX6_store : MethodName := ⟨RX6, "store", "(II)V"⟩
abbrev cX6_storeWord : ByteArray := prog_8_method_5_code
def yX6_storeWord : MethodName := ⟨RX6, "storeWord", "(II)V"⟩
abbrev cX6_fill : ByteArray := prog_8_method_6_code
def yX6_fill : MethodName := ⟨RX6, "fill", "(III)V"⟩
def RX7 : String := "OpcodeForge$Names"
def TX7 : u_T := fun k => match k with
  | 0 => ("OpcodeForge$Names", "reserved", "[J", true)
  | 1 => ("OpcodeForge$Names", "keys", "[J", true)
  | 2 => ("OpcodeForge$Names", "values", "[I", true)
  | 3 => ("OpcodeForge$Names", "foundKeys", "[J", true)
  | 4 => ("OpcodeForge$Names", "foundValues", "[I", true)
  | 5 => ("OpcodeForge$Names", "count", "I", false)
  | _ => ("OpcodeForge$Names", "found", "I", false)
def tyX7 : Nat → FieldType := fun k => match k with
  | 0 => .array .long
  | 1 => .array .long
  | 2 => .array .int
  | 3 => .array .long
  | 4 => .array .int
  | 5 => .int
  | _ => .int
abbrev wsX70 : List Cond := u_ws RX7 TX7 7
theorem nmX7 : ∀ a, a < 7 → ∀ b, b < 7 → a ≠ b → (TX7 a).2.1 ≠ (TX7 b).2.1 := by decide +kernel
theorem tyX7_ok : ∀ k, k < 7 → parseFieldDescriptor (TX7 k).2.2.1 = some (tyX7 k) := by decide +kernel
abbrev cX7_init : ByteArray := prog_9_method_1_code
def yX7_init : MethodName := ⟨RX7, "<init>", "()V"⟩
abbrev cX7_reserve : ByteArray := prog_9_method_2_code
def yX7_reserve : MethodName := ⟨RX7, "reserve", "(Ljava/lang/String;I)I"⟩
abbrev cX7_digitOf : ByteArray := prog_9_method_3_code
def yX7_digitOf : MethodName := ⟨RX7, "digitOf", "(I)I"⟩
abbrev cX7_longer : ByteArray := prog_9_method_4_code
def yX7_longer : MethodName := ⟨RX7, "longer", "(JI)J"⟩
abbrev cX7_signOf : ByteArray := prog_9_method_5_code
def yX7_signOf : MethodName := ⟨RX7, "signOf", "(JI)I"⟩
abbrev cX7_append : ByteArray := prog_9_method_6_code
def yX7_append : MethodName := ⟨RX7, "append", "(LOpcodeForge$Text;I)V"⟩
abbrev cX7_idOf : ByteArray := prog_9_method_7_code
def yX7_idOf : MethodName := ⟨RX7, "idOf", "(J)I"⟩
abbrev cX7_beginFinding : ByteArray := prog_9_method_8_code
def yX7_beginFinding : MethodName := ⟨RX7, "beginFinding", "()V"⟩
abbrev cX7_isFree : ByteArray := prog_9_method_9_code
def yX7_isFree : MethodName := ⟨RX7, "isFree", "(J)Z"⟩
abbrev cX7_tell : ByteArray := prog_9_method_10_code
def yX7_tell : MethodName := ⟨RX7, "tell", "(JI)V"⟩
abbrev cX7_find : ByteArray := prog_9_method_11_code
def yX7_find : MethodName := ⟨RX7, "find", "(J)I"⟩
abbrev cX7_foundValue : ByteArray := prog_9_method_12_code
def yX7_foundValue : MethodName := ⟨RX7, "foundValue", "(I)I"⟩
abbrev cX7_keepFound : ByteArray := prog_9_method_13_code
def yX7_keepFound : MethodName := ⟨RX7, "keepFound", "()V"⟩
abbrev cX7_count : ByteArray := prog_9_method_14_code
def yX7_count : MethodName := ⟨RX7, "count", "()I"⟩
abbrev cX7_labelValue : ByteArray := prog_9_method_15_code
def yX7_labelValue : MethodName := ⟨RX7, "labelValue", "(I)I"⟩
abbrev cX7_labelKey : ByteArray := prog_9_method_16_code
def yX7_labelKey : MethodName := ⟨RX7, "labelKey", "(I)J"⟩
def RX8 : String := "OpcodeForge$Operands"
def TX8 : u_T := fun k => match k with
  | 0 => ("OpcodeForge$Operands", "tokens", "LOpcodeForge$Tokens;", true)
  | 1 => ("OpcodeForge$Operands", "names", "LOpcodeForge$Names;", true)
  | 2 => ("OpcodeForge$Operands", "expression", "LOpcodeForge$Expression;", true)
  | 3 => ("OpcodeForge$Operands", "kinds", "[I", true)
  | 4 => ("OpcodeForge$Operands", "values", "[I", true)
  | 5 => ("OpcodeForge$Operands", "places", "[I", true)
  | 6 => ("OpcodeForge$Operands", "knowns", "[Z", true)
  | 7 => ("OpcodeForge$Operands", "negates", "Z", false)
  | _ => ("OpcodeForge$Operands", "count", "I", false)
def tyX8 : Nat → FieldType := fun k => match k with
  | 0 => .object "OpcodeForge$Tokens"
  | 1 => .object "OpcodeForge$Names"
  | 2 => .object "OpcodeForge$Expression"
  | 3 => .array .int
  | 4 => .array .int
  | 5 => .array .int
  | 6 => .array .boolean
  | 7 => .boolean
  | _ => .int
abbrev wsX80 : List Cond := u_ws RX8 TX8 9
theorem nmX8 : ∀ a, a < 9 → ∀ b, b < 9 → a ≠ b → (TX8 a).2.1 ≠ (TX8 b).2.1 := by decide +kernel
theorem tyX8_ok : ∀ k, k < 9 → parseFieldDescriptor (TX8 k).2.2.1 = some (tyX8 k) := by decide +kernel
abbrev cX8_init : ByteArray := prog_10_method_1_code
def yX8_init : MethodName := ⟨RX8, "<init>", "(LOpcodeForge$Tokens;LOpcodeForge$Names;LOpcodeForge$Expression;)V"⟩
abbrev cX8_begin : ByteArray := prog_10_method_2_code
def yX8_begin : MethodName := ⟨RX8, "begin", "()V"⟩
abbrev cX8_read : ByteArray := prog_10_method_3_code
def yX8_read : MethodName := ⟨RX8, "read", "(IIZ)I"⟩
abbrev cX8_closing : ByteArray := prog_10_method_4_code
def yX8_closing : MethodName := ⟨RX8, "closing", "(I)I"⟩
abbrev cX8_classify : ByteArray := prog_10_method_5_code
def yX8_classify : MethodName := ⟨RX8, "classify", "(II)I"⟩
abbrev cX8_placeOf : ByteArray := prog_10_method_6_code
def yX8_placeOf : MethodName := ⟨RX8, "placeOf", "(I)I"⟩
abbrev cX8_count : ByteArray := prog_10_method_7_code
def yX8_count : MethodName := ⟨RX8, "count", "()I"⟩
abbrev cX8_kind : ByteArray := prog_10_method_8_code
def yX8_kind : MethodName := ⟨RX8, "kind", "(II)I"⟩
abbrev cX8_value : ByteArray := prog_10_method_9_code
def yX8_value : MethodName := ⟨RX8, "value", "(I)I"⟩
abbrev cX8_known : ByteArray := prog_10_method_10_code
def yX8_known : MethodName := ⟨RX8, "known", "(I)Z"⟩
abbrev cX8_place : ByteArray := prog_10_method_11_code
def yX8_place : MethodName := ⟨RX8, "place", "(I)I"⟩
def RX9 : String := "OpcodeForge$Shapes"
def TX9 : u_T := fun k => match k with
  | 0 => ("OpcodeForge$Shapes", "shapes", "[I", true)
  | 1 => ("OpcodeForge$Shapes", "next", "[I", true)
  | _ => ("OpcodeForge$Shapes", "first", "[I", true)
def tyX9 : Nat → FieldType := fun k => match k with
  | 0 => .array .int
  | 1 => .array .int
  | _ => .array .int
abbrev wsX90 : List Cond := u_ws RX9 TX9 3
theorem nmX9 : ∀ a, a < 3 → ∀ b, b < 3 → a ≠ b → (TX9 a).2.1 ≠ (TX9 b).2.1 := by decide +kernel
theorem tyX9_ok : ∀ k, k < 3 → parseFieldDescriptor (TX9 k).2.2.1 = some (tyX9 k) := by decide +kernel
abbrev cX9_init : ByteArray := prog_11_method_1_code
def yX9_init : MethodName := ⟨RX9, "<init>", "()V"⟩
abbrev cX9_shape : ByteArray := prog_11_method_2_code
def yX9_shape : MethodName := ⟨RX9, "shape", "(III)I"⟩
abbrev cX9_octetKind : ByteArray := prog_11_method_3_code
def yX9_octetKind : MethodName := ⟨RX9, "octetKind", "(I)I"⟩
abbrev cX9_pairKind : ByteArray := prog_11_method_4_code
def yX9_pairKind : MethodName := ⟨RX9, "pairKind", "(I)I"⟩
abbrev cX9_pushedKind : ByteArray := prog_11_method_5_code
def yX9_pushedKind : MethodName := ⟨RX9, "pushedKind", "(I)I"⟩
abbrev cX9_conditionKind : ByteArray := prog_11_method_6_code
def yX9_conditionKind : MethodName := ⟨RX9, "conditionKind", "(I)I"⟩
abbrev cX9_shapeOf : ByteArray := prog_11_method_7_code
def yX9_shapeOf : MethodName := ⟨RX9, "shapeOf", "(II)I"⟩
abbrev cX9_plain : ByteArray := prog_11_method_8_code
def yX9_plain : MethodName := ⟨RX9, "plain", "(I)I"⟩
abbrev cX9_arithmetic : ByteArray := prog_11_method_9_code
def yX9_arithmetic : MethodName := ⟨RX9, "arithmetic", "(II)I"⟩
abbrev cX9_early : ByteArray := prog_11_method_10_code
def yX9_early : MethodName := ⟨RX9, "early", "(II)I"⟩
abbrev cX9_throughMemory : ByteArray := prog_11_method_11_code
def yX9_throughMemory : MethodName := ⟨RX9, "throughMemory", "(I)I"⟩
abbrev cX9_middle : ByteArray := prog_11_method_12_code
def yX9_middle : MethodName := ⟨RX9, "middle", "(II)I"⟩
abbrev cX9_late : ByteArray := prog_11_method_13_code
def yX9_late : MethodName := ⟨RX9, "late", "(II)I"⟩
abbrev cX9_lateOdd : ByteArray := prog_11_method_14_code
def yX9_lateOdd : MethodName := ⟨RX9, "lateOdd", "(I)I"⟩
abbrev cX9_lateMixed : ByteArray := prog_11_method_15_code
def yX9_lateMixed : MethodName := ⟨RX9, "lateMixed", "(I)I"⟩
abbrev cX9_bits : ByteArray := prog_11_method_16_code
def yX9_bits : MethodName := ⟨RX9, "bits", "(I)I"⟩
abbrev cX9_extra : ByteArray := prog_11_method_17_code
def yX9_extra : MethodName := ⟨RX9, "extra", "(I)I"⟩
abbrev cX9_extraLast : ByteArray := prog_11_method_18_code
def yX9_extraLast : MethodName := ⟨RX9, "extraLast", "(I)I"⟩
abbrev cX9_indexed : ByteArray := prog_11_method_19_code
def yX9_indexed : MethodName := ⟨RX9, "indexed", "(IIII)I"⟩
abbrev cX9_turned : ByteArray := prog_11_method_20_code
def yX9_turned : MethodName := ⟨RX9, "turned", "(III)I"⟩
abbrev cX9_has : ByteArray := prog_11_method_21_code
def yX9_has : MethodName := ⟨RX9, "has", "(I)Z"⟩
abbrev cX9_shapeAt : ByteArray := prog_11_method_22_code
def yX9_shapeAt : MethodName := ⟨RX9, "shapeAt", "(I)I"⟩
abbrev cX9_word : ByteArray := prog_11_method_23_code
def yX9_word : MethodName := ⟨RX9, "word", "(I)I"⟩
abbrev cX9_kind : ByteArray := prog_11_method_24_code
def yX9_kind : MethodName := ⟨RX9, "kind", "(II)I"⟩
abbrev cX9_find : ByteArray := prog_11_method_25_code
def yX9_find : MethodName := ⟨RX9, "find", "(III)I"⟩
abbrev cX9_asRead : ByteArray := prog_11_method_26_code
def yX9_asRead : MethodName := ⟨RX9, "asRead", "(I)I"⟩
abbrev cX9_size : ByteArray := prog_11_method_27_code
def yX9_size : MethodName := ⟨RX9, "size", "(I)I"⟩
abbrev cX9_lengthOf : ByteArray := prog_11_method_28_code
def yX9_lengthOf : MethodName := ⟨RX9, "lengthOf", "(I)I"⟩
def RX10 : String := "OpcodeForge$Text"
def TX10 : u_T := fun k => match k with
  | 0 => ("OpcodeForge$Text", "signs", "[B", true)
  | _ => ("OpcodeForge$Text", "length", "I", false)
def tyX10 : Nat → FieldType := fun k => match k with
  | 0 => .array .byte
  | _ => .int
abbrev wsX100 : List Cond := u_ws RX10 TX10 2
theorem nmX10 : ∀ a, a < 2 → ∀ b, b < 2 → a ≠ b → (TX10 a).2.1 ≠ (TX10 b).2.1 := by decide +kernel
theorem tyX10_ok : ∀ k, k < 2 → parseFieldDescriptor (TX10 k).2.2.1 = some (tyX10 k) := by decide +kernel
abbrev cX10_init : ByteArray := prog_12_method_1_code
def yX10_init : MethodName := ⟨RX10, "<init>", "(I)V"⟩
abbrev cX10_empty : ByteArray := prog_12_method_2_code
def yX10_empty : MethodName := ⟨RX10, "empty", "()V"⟩
abbrev cX10_length : ByteArray := prog_12_method_3_code
def yX10_length : MethodName := ⟨RX10, "length", "()I"⟩
abbrev cX10_at : ByteArray := prog_12_method_4_code
def yX10_at : MethodName := ⟨RX10, "at", "(I)I"⟩
abbrev cX10_add : ByteArray := prog_12_method_5_code
def yX10_add : MethodName := ⟨RX10, "add", "(I)V"⟩
abbrev cX10_addNumber : ByteArray := prog_12_method_6_code
def yX10_addNumber : MethodName := ⟨RX10, "addNumber", "(I)V"⟩
abbrev cX10_become : ByteArray := prog_12_method_7_code
def yX10_become : MethodName := ⟨RX10, "become", "(LOpcodeForge$Text;)V"⟩
abbrev cX10_lineEnd : ByteArray := prog_12_method_8_code
def yX10_lineEnd : MethodName := ⟨RX10, "lineEnd", "(I)I"⟩
def RX11 : String := "OpcodeForge$Tokens"
def TX11 : u_T := fun k => match k with
  | 0 => ("OpcodeForge$Tokens", "source", "LOpcodeForge$Text;", true)
  | 1 => ("OpcodeForge$Tokens", "faults", "LOpcodeForge$Faults;", true)
  | 2 => ("OpcodeForge$Tokens", "kinds", "[B", true)
  | 3 => ("OpcodeForge$Tokens", "places", "[I", true)
  | 4 => ("OpcodeForge$Tokens", "values", "[J", true)
  | 5 => ("OpcodeForge$Tokens", "count", "I", false)
  | _ => ("OpcodeForge$Tokens", "line", "I", false)
def tyX11 : Nat → FieldType := fun k => match k with
  | 0 => .object "OpcodeForge$Text"
  | 1 => .object "OpcodeForge$Faults"
  | 2 => .array .byte
  | 3 => .array .int
  | 4 => .array .long
  | 5 => .int
  | _ => .int
abbrev wsX110 : List Cond := u_ws RX11 TX11 7
theorem nmX11 : ∀ a, a < 7 → ∀ b, b < 7 → a ≠ b → (TX11 a).2.1 ≠ (TX11 b).2.1 := by decide +kernel
theorem tyX11_ok : ∀ k, k < 7 → parseFieldDescriptor (TX11 k).2.2.1 = some (tyX11 k) := by decide +kernel
abbrev cX11_init : ByteArray := prog_13_method_1_code
def yX11_init : MethodName := ⟨RX11, "<init>", "(LOpcodeForge$Text;LOpcodeForge$Faults;)V"⟩
abbrev cX11_beginLine : ByteArray := prog_13_method_2_code
def yX11_beginLine : MethodName := ⟨RX11, "beginLine", "(I)V"⟩
abbrev cX11_cut : ByteArray := prog_13_method_3_code
def yX11_cut : MethodName := ⟨RX11, "cut", "(II)V"⟩
abbrev cX11_append : ByteArray := prog_13_method_4_code
def yX11_append : MethodName := ⟨RX11, "append", "(IIJ)V"⟩
abbrev cX11_takeToken : ByteArray := prog_13_method_5_code
def yX11_takeToken : MethodName := ⟨RX11, "takeToken", "(I)I"⟩
abbrev cX11_takeName : ByteArray := prog_13_method_6_code
def yX11_takeName : MethodName := ⟨RX11, "takeName", "(I)I"⟩
abbrev cX11_takeNumber : ByteArray := prog_13_method_7_code
def yX11_takeNumber : MethodName := ⟨RX11, "takeNumber", "(III)I"⟩
abbrev cX11_digitAt : ByteArray := prog_13_method_8_code
def yX11_digitAt : MethodName := ⟨RX11, "digitAt", "(I)I"⟩
abbrev cX11_takeQuoted : ByteArray := prog_13_method_9_code
def yX11_takeQuoted : MethodName := ⟨RX11, "takeQuoted", "(I)I"⟩
abbrev cX11_takeText : ByteArray := prog_13_method_10_code
def yX11_takeText : MethodName := ⟨RX11, "takeText", "(I)I"⟩
abbrev cX11_isBlank : ByteArray := prog_13_method_11_code
def yX11_isBlank : MethodName := ⟨RX11, "isBlank", "(I)Z"⟩
abbrev cX11_beginsName : ByteArray := prog_13_method_12_code
def yX11_beginsName : MethodName := ⟨RX11, "beginsName", "(I)Z"⟩
abbrev cX11_skipBlanks : ByteArray := prog_13_method_13_code
def yX11_skipBlanks : MethodName := ⟨RX11, "skipBlanks", "(I)I"⟩
abbrev cX11_nameEnd : ByteArray := prog_13_method_14_code
def yX11_nameEnd : MethodName := ⟨RX11, "nameEnd", "(I)I"⟩
abbrev cX11_keyOf : ByteArray := prog_13_method_15_code
def yX11_keyOf : MethodName := ⟨RX11, "keyOf", "(II)J"⟩
abbrev cX11_rulingPlace : ByteArray := prog_13_method_16_code
def yX11_rulingPlace : MethodName := ⟨RX11, "rulingPlace", "(I)I"⟩
abbrev cX11_keyAt : ByteArray := prog_13_method_17_code
def yX11_keyAt : MethodName := ⟨RX11, "keyAt", "(I)J"⟩
abbrev cX11_kind : ByteArray := prog_13_method_18_code
def yX11_kind : MethodName := ⟨RX11, "kind", "(I)I"⟩
abbrev cX11_place : ByteArray := prog_13_method_19_code
def yX11_place : MethodName := ⟨RX11, "place", "(I)I"⟩
abbrev cX11_value : ByteArray := prog_13_method_20_code
def yX11_value : MethodName := ⟨RX11, "value", "(I)J"⟩
abbrev cX11_count : ByteArray := prog_13_method_21_code
def yX11_count : MethodName := ⟨RX11, "count", "()I"⟩
abbrev cX11_endsOperand : ByteArray := prog_13_method_22_code
def yX11_endsOperand : MethodName := ⟨RX11, "endsOperand", "(I)Z"⟩
abbrev cX11_blame : ByteArray := prog_13_method_23_code
def yX11_blame : MethodName := ⟨RX11, "blame", "(II)V"⟩
abbrev cX11_blamePlace : ByteArray := prog_13_method_24_code
def yX11_blamePlace : MethodName := ⟨RX11, "blamePlace", "(II)V"⟩
abbrev cX11_refuse : ByteArray := prog_13_method_25_code
def yX11_refuse : MethodName := ⟨RX11, "refuse", "(I)V"⟩
def RX12 : String := "OpcodeForge"
def TX12 : u_T := fun k => match k with
  | 0 => ("OpcodeForge", "memory", "LOpcodeForge$Memory;", true)
  | 1 => ("OpcodeForge", "names", "LOpcodeForge$Names;", true)
  | 2 => ("OpcodeForge", "source", "LOpcodeForge$Text;", true)
  | 3 => ("OpcodeForge", "draft", "LOpcodeForge$Text;", true)
  | 4 => ("OpcodeForge", "written", "LOpcodeForge$Text;", true)
  | 5 => ("OpcodeForge", "instruction", "LOpcodeForge$Instruction;", true)
  | 6 => ("OpcodeForge", "forger", "LOpcodeForge$Forger;", true)
  | _ => ("OpcodeForge", "machine", "LOpcodeForge$Machine;", true)
def tyX12 : Nat → FieldType := fun k => match k with
  | 0 => .object "OpcodeForge$Memory"
  | 1 => .object "OpcodeForge$Names"
  | 2 => .object "OpcodeForge$Text"
  | 3 => .object "OpcodeForge$Text"
  | 4 => .object "OpcodeForge$Text"
  | 5 => .object "OpcodeForge$Instruction"
  | 6 => .object "OpcodeForge$Forger"
  | _ => .object "OpcodeForge$Machine"
abbrev wsX120 : List Cond := u_ws RX12 TX12 8
theorem nmX12 : ∀ a, a < 8 → ∀ b, b < 8 → a ≠ b → (TX12 a).2.1 ≠ (TX12 b).2.1 := by decide +kernel
theorem tyX12_ok : ∀ k, k < 8 → parseFieldDescriptor (TX12 k).2.2.1 = some (tyX12 k) := by decide +kernel
abbrev cX12_init : ByteArray := prog_1_method_1_code
def yX12_init : MethodName := ⟨RX12, "<init>", "()V"⟩
abbrev cX12_feed : ByteArray := prog_1_method_2_code
def yX12_feed : MethodName := ⟨RX12, "feed", "(JI)I"⟩
abbrev cX12_forge : ByteArray := prog_1_method_3_code
def yX12_forge : MethodName := ⟨RX12, "forge", "()I"⟩
abbrev cX12_told : ByteArray := prog_1_method_4_code
def yX12_told : MethodName := ⟨RX12, "told", "(I)I"⟩
abbrev cX12_label : ByteArray := prog_1_method_5_code
def yX12_label : MethodName := ⟨RX12, "label", "(I)I"⟩
abbrev cX12_labelSign : ByteArray := prog_1_method_6_code
def yX12_labelSign : MethodName := ⟨RX12, "labelSign", "(II)I"⟩
abbrev cX12_write : ByteArray := prog_1_method_7_code
def yX12_write : MethodName := ⟨RX12, "write", "(I)I"⟩
abbrev cX12_sign : ByteArray := prog_1_method_8_code
def yX12_sign : MethodName := ⟨RX12, "sign", "(I)I"⟩
abbrev cX12_source : ByteArray := prog_1_method_9_code
def yX12_source : MethodName := ⟨RX12, "source", "(II)I"⟩
abbrev cX12_sourceAt : ByteArray := prog_1_method_10_code
def yX12_sourceAt : MethodName := ⟨RX12, "sourceAt", "(I)I"⟩
abbrev cX12_octet : ByteArray := prog_1_method_11_code
def yX12_octet : MethodName := ⟨RX12, "octet", "(I)I"⟩
abbrev cX12_put : ByteArray := prog_1_method_12_code
def yX12_put : MethodName := ⟨RX12, "put", "(II)I"⟩
abbrev cX12_register : ByteArray := prog_1_method_13_code
def yX12_register : MethodName := ⟨RX12, "register", "(I)I"⟩
abbrev cX12_set : ByteArray := prog_1_method_14_code
def yX12_set : MethodName := ⟨RX12, "set", "(II)I"⟩
abbrev cX12_port : ByteArray := prog_1_method_15_code
def yX12_port : MethodName := ⟨RX12, "port", "(II)I"⟩
abbrev cX12_out : ByteArray := prog_1_method_16_code
def yX12_out : MethodName := ⟨RX12, "out", "(I)I"⟩
abbrev cX12_request : ByteArray := prog_1_method_17_code
def yX12_request : MethodName := ⟨RX12, "request", "(II)I"⟩
abbrev cX12_step : ByteArray := prog_1_method_18_code
def yX12_step : MethodName := ⟨RX12, "step", "()I"⟩
abbrev cX12_run : ByteArray := prog_1_method_19_code
def yX12_run : MethodName := ⟨RX12, "run", "(I)I"⟩
abbrev cX12_outs : ByteArray := prog_1_method_20_code
def yX12_outs : MethodName := ⟨RX12, "outs", "()J"⟩
abbrev cX12_clear : ByteArray := prog_1_method_21_code
def yX12_clear : MethodName := ⟨RX12, "clear", "()V"⟩
def RX13 : String := "OpcodeForgeModel"
def TX13 : u_T := fun k => match k with
  | 0 => ("OpcodeForgeModel", "source", "[I", true)
  | 1 => ("OpcodeForgeModel", "size", "I", false)
  | 2 => ("OpcodeForgeModel", "at", "I", false)
  | 3 => ("OpcodeForgeModel", "kind", "I", false)
  | 4 => ("OpcodeForgeModel", "place", "I", false)
  | 5 => ("OpcodeForgeModel", "stop", "I", false)
  | 6 => ("OpcodeForgeModel", "value", "I", false)
  | 7 => ("OpcodeForgeModel", "word", "J", false)
  | 8 => ("OpcodeForgeModel", "fault", "I", false)
  | 9 => ("OpcodeForgeModel", "faultPlace", "I", false)
  | 10 => ("OpcodeForgeModel", "names", "[I", true)
  | 11 => ("OpcodeForgeModel", "nameSizes", "[I", true)
  | 12 => ("OpcodeForgeModel", "nameValues", "[I", true)
  | 13 => ("OpcodeForgeModel", "nameCount", "I", false)
  | 14 => ("OpcodeForgeModel", "waits", "[I", true)
  | 15 => ("OpcodeForgeModel", "waitPlaces", "[I", true)
  | 16 => ("OpcodeForgeModel", "waiting", "I", false)
  | 17 => ("OpcodeForgeModel", "values", "[I", true)
  | 18 => ("OpcodeForgeModel", "valued", "I", false)
  | 19 => ("OpcodeForgeModel", "opens", "I", false)
  | 20 => ("OpcodeForgeModel", "here", "I", false)
  | 21 => ("OpcodeForgeModel", "origin", "I", false)
  | 22 => ("OpcodeForgeModel", "result", "I", false)
  | 23 => ("OpcodeForgeModel", "kinds", "[I", true)
  | 24 => ("OpcodeForgeModel", "which", "[I", true)
  | 25 => ("OpcodeForgeModel", "begins", "[I", true)
  | 26 => ("OpcodeForgeModel", "turned", "[Z", true)
  | 27 => ("OpcodeForgeModel", "bare", "[Z", true)
  | 28 => ("OpcodeForgeModel", "operands", "I", false)
  | 29 => ("OpcodeForgeModel", "front", "I", false)
  | 30 => ("OpcodeForgeModel", "middle", "I", false)
  | 31 => ("OpcodeForgeModel", "code", "I", false)
  | 32 => ("OpcodeForgeModel", "behindKind", "I", false)
  | 33 => ("OpcodeForgeModel", "behindOf", "I", false)
  | 34 => ("OpcodeForgeModel", "partKind", "I", false)
  | 35 => ("OpcodeForgeModel", "partOf", "I", false)
  | 36 => ("OpcodeForgeModel", "moved", "I", false)
  | 37 => ("OpcodeForgeModel", "memory", "[I", true)
  | 38 => ("OpcodeForgeModel", "draft", "[I", true)
  | 39 => ("OpcodeForgeModel", "putCount", "I", false)
  | 40 => ("OpcodeForgeModel", "firstPut", "I", false)
  | 41 => ("OpcodeForgeModel", "line", "I", false)
  | 42 => ("OpcodeForgeModel", "second", "Z", false)
  | 43 => ("OpcodeForgeModel", "done", "[Z", true)
  | 44 => ("OpcodeForgeModel", "elses", "[Z", true)
  | 45 => ("OpcodeForgeModel", "ifs", "I", false)
  | 46 => ("OpcodeForgeModel", "latestLine", "I", false)
  | 47 => ("OpcodeForgeModel", "latestPlace", "I", false)
  | 48 => ("OpcodeForgeModel", "latestLines", "I", false)
  | 49 => ("OpcodeForgeModel", "latestFirst", "I", false)
  | 50 => ("OpcodeForgeModel", "latestEnd", "I", false)
  | 51 => ("OpcodeForgeModel", "labels", "I", false)
  | 52 => ("OpcodeForgeModel", "labelNames", "[I", true)
  | 53 => ("OpcodeForgeModel", "labelSizes", "[I", true)
  | 54 => ("OpcodeForgeModel", "labelValues", "[I", true)
  | 55 => ("OpcodeForgeModel", "laidPart", "I", false)
  | 56 => ("OpcodeForgeModel", "laidMoved", "I", false)
  | 57 => ("OpcodeForgeModel", "laidBehind", "I", false)
  | 58 => ("OpcodeForgeModel", "skipTo", "I", false)
  | 59 => ("OpcodeForgeModel", "is203", "I", false)
  | 60 => ("OpcodeForgeModel", "index", "I", false)
  | 61 => ("OpcodeForgeModel", "op", "I", false)
  | 62 => ("OpcodeForgeModel", "distance", "I", false)
  | 63 => ("OpcodeForgeModel", "length", "I", false)
  | 64 => ("OpcodeForgeModel", "operandAt", "I", false)
  | 65 => ("OpcodeForgeModel", "written", "[I", true)
  | 66 => ("OpcodeForgeModel", "writtenSize", "I", false)
  | 67 => ("OpcodeForgeModel", "shown", "[I", true)
  | 68 => ("OpcodeForgeModel", "shownSize", "I", false)
  | 69 => ("OpcodeForgeModel", "lines", "[I", true)
  | 70 => ("OpcodeForgeModel", "r", "[I", true)
  | 71 => ("OpcodeForgeModel", "other", "[I", true)
  | 72 => ("OpcodeForgeModel", "halfI", "I", false)
  | 73 => ("OpcodeForgeModel", "halfR", "I", false)
  | 74 => ("OpcodeForgeModel", "indexes", "[I", true)
  | 75 => ("OpcodeForgeModel", "sp", "I", false)
  | 76 => ("OpcodeForgeModel", "pc", "I", false)
  | 77 => ("OpcodeForgeModel", "latch1", "I", false)
  | 78 => ("OpcodeForgeModel", "latch2", "I", false)
  | 79 => ("OpcodeForgeModel", "mode", "I", false)
  | 80 => ("OpcodeForgeModel", "comes", "[I", true)
  | 81 => ("OpcodeForgeModel", "went", "[I", true)
  | 82 => ("OpcodeForgeModel", "hard", "Z", false)
  | 83 => ("OpcodeForgeModel", "plainWaits", "Z", false)
  | 84 => ("OpcodeForgeModel", "plainValue", "I", false)
  | 85 => ("OpcodeForgeModel", "justEnabled", "Z", false)
  | _ => ("OpcodeForgeModel", "outCount", "J", false)
def tyX13 : Nat → FieldType := fun k => match k with
  | 0 => .array .int
  | 1 => .int
  | 2 => .int
  | 3 => .int
  | 4 => .int
  | 5 => .int
  | 6 => .int
  | 7 => .long
  | 8 => .int
  | 9 => .int
  | 10 => .array .int
  | 11 => .array .int
  | 12 => .array .int
  | 13 => .int
  | 14 => .array .int
  | 15 => .array .int
  | 16 => .int
  | 17 => .array .int
  | 18 => .int
  | 19 => .int
  | 20 => .int
  | 21 => .int
  | 22 => .int
  | 23 => .array .int
  | 24 => .array .int
  | 25 => .array .int
  | 26 => .array .boolean
  | 27 => .array .boolean
  | 28 => .int
  | 29 => .int
  | 30 => .int
  | 31 => .int
  | 32 => .int
  | 33 => .int
  | 34 => .int
  | 35 => .int
  | 36 => .int
  | 37 => .array .int
  | 38 => .array .int
  | 39 => .int
  | 40 => .int
  | 41 => .int
  | 42 => .boolean
  | 43 => .array .boolean
  | 44 => .array .boolean
  | 45 => .int
  | 46 => .int
  | 47 => .int
  | 48 => .int
  | 49 => .int
  | 50 => .int
  | 51 => .int
  | 52 => .array .int
  | 53 => .array .int
  | 54 => .array .int
  | 55 => .int
  | 56 => .int
  | 57 => .int
  | 58 => .int
  | 59 => .int
  | 60 => .int
  | 61 => .int
  | 62 => .int
  | 63 => .int
  | 64 => .int
  | 65 => .array .int
  | 66 => .int
  | 67 => .array .int
  | 68 => .int
  | 69 => .array .int
  | 70 => .array .int
  | 71 => .array .int
  | 72 => .int
  | 73 => .int
  | 74 => .array .int
  | 75 => .int
  | 76 => .int
  | 77 => .int
  | 78 => .int
  | 79 => .int
  | 80 => .array .int
  | 81 => .array .int
  | 82 => .boolean
  | 83 => .boolean
  | 84 => .int
  | 85 => .boolean
  | _ => .long
abbrev wsX130 : List Cond := u_ws RX13 TX13 87
theorem nmX13 : ∀ a, a < 87 → ∀ b, b < 87 → a ≠ b → (TX13 a).2.1 ≠ (TX13 b).2.1 := by decide +kernel
theorem tyX13_ok : ∀ k, k < 87 → parseFieldDescriptor (TX13 k).2.2.1 = some (tyX13 k) := by decide +kernel
abbrev cX13_init : ByteArray := prog_15_method_1_code
def yX13_init : MethodName := ⟨RX13, "<init>", "()V"⟩
abbrev cX13_feed : ByteArray := prog_15_method_2_code
def yX13_feed : MethodName := ⟨RX13, "feed", "(JI)I"⟩
abbrev cX13_sourceAt : ByteArray := prog_15_method_3_code
def yX13_sourceAt : MethodName := ⟨RX13, "sourceAt", "(I)I"⟩
abbrev cX13_wrong : ByteArray := prog_15_method_4_code
def yX13_wrong : MethodName := ⟨RX13, "wrong", "(II)Z"⟩
abbrev cX13_refuse : ByteArray := prog_15_method_5_code
def yX13_refuse : MethodName := ⟨RX13, "refuse", "()Z"⟩
abbrev cX13_byteAt : ByteArray := prog_15_method_6_code
def yX13_byteAt : MethodName := ⟨RX13, "byteAt", "(I)I"⟩
abbrev cX13_capital : ByteArray := prog_15_method_7_code
def yX13_capital : MethodName := ⟨RX13, "capital", "(I)I"⟩
abbrev cX13_isDigit : ByteArray := prog_15_method_8_code
def yX13_isDigit : MethodName := ⟨RX13, "isDigit", "(I)Z"⟩
abbrev cX13_isStart : ByteArray := prog_15_method_9_code
def yX13_isStart : MethodName := ⟨RX13, "isStart", "(I)Z"⟩
abbrev cX13_isBlank : ByteArray := prog_15_method_10_code
def yX13_isBlank : MethodName := ⟨RX13, "isBlank", "(I)Z"⟩
abbrev cX13_next : ByteArray := prog_15_method_11_code
def yX13_next : MethodName := ⟨RX13, "next", "()V"⟩
abbrev cX13_name : ByteArray := prog_15_method_12_code
def yX13_name : MethodName := ⟨RX13, "name", "()V"⟩
abbrev cX13_worth : ByteArray := prog_15_method_13_code
def yX13_worth : MethodName := ⟨RX13, "worth", "(I)I"⟩
abbrev cX13_digits : ByteArray := prog_15_method_14_code
def yX13_digits : MethodName := ⟨RX13, "digits", "(II)V"⟩
abbrev cX13_readSign : ByteArray := prog_15_method_15_code
def yX13_readSign : MethodName := ⟨RX13, "readSign", "(I)V"⟩
abbrev cX13_isSign : ByteArray := prog_15_method_16_code
def yX13_isSign : MethodName := ⟨RX13, "isSign", "(I)Z"⟩
abbrev cX13_goTo : ByteArray := prog_15_method_17_code
def yX13_goTo : MethodName := ⟨RX13, "goTo", "(I)V"⟩
abbrev cX13_find : ByteArray := prog_15_method_18_code
def yX13_find : MethodName := ⟨RX13, "find", "(II)I"⟩
abbrev cX13_addName : ByteArray := prog_15_method_19_code
def yX13_addName : MethodName := ⟨RX13, "addName", "(III)V"⟩
abbrev cX13_isRegister : ByteArray := prog_15_method_20_code
def yX13_isRegister : MethodName := ⟨RX13, "isRegister", "(J)Z"⟩
abbrev cX13_isReserved : ByteArray := prog_15_method_21_code
def yX13_isReserved : MethodName := ⟨RX13, "isReserved", "(J)Z"⟩
abbrev cX13_isStatement : ByteArray := prog_15_method_22_code
def yX13_isStatement : MethodName := ⟨RX13, "isStatement", "(J)Z"⟩
abbrev cX13_isMany : ByteArray := prog_15_method_23_code
def yX13_isMany : MethodName := ⟨RX13, "isMany", "(J)Z"⟩
abbrev cX13_plain : ByteArray := prog_15_method_24_code
def yX13_plain : MethodName := ⟨RX13, "plain", "(J)I"⟩
abbrev cX13_rank : ByteArray := prog_15_method_25_code
def yX13_rank : MethodName := ⟨RX13, "rank", "(I)I"⟩
abbrev cX13_push : ByteArray := prog_15_method_26_code
def yX13_push : MethodName := ⟨RX13, "push", "(I)V"⟩
abbrev cX13_apply : ByteArray := prog_15_method_27_code
def yX13_apply : MethodName := ⟨RX13, "apply", "(Z)Z"⟩
abbrev cX13_expression : ByteArray := prog_15_method_28_code
def yX13_expression : MethodName := ⟨RX13, "expression", "(Z)Z"⟩
abbrev cX13_operand : ByteArray := prog_15_method_29_code
def yX13_operand : MethodName := ⟨RX13, "operand", "(Z)Z"⟩
abbrev cX13_unaries : ByteArray := prog_15_method_30_code
def yX13_unaries : MethodName := ⟨RX13, "unaries", "(Z)Z"⟩
abbrev cX13_behind : ByteArray := prog_15_method_31_code
def yX13_behind : MethodName := ⟨RX13, "behind", "(Z)Z"⟩
abbrev cX13_register8 : ByteArray := prog_15_method_32_code
def yX13_register8 : MethodName := ⟨RX13, "register8", "(J)I"⟩
abbrev cX13_pair : ByteArray := prog_15_method_33_code
def yX13_pair : MethodName := ⟨RX13, "pair", "(J)I"⟩
abbrev cX13_index : ByteArray := prog_15_method_34_code
def yX13_index : MethodName := ⟨RX13, "index", "(J)I"⟩
abbrev cX13_condition : ByteArray := prog_15_method_35_code
def yX13_condition : MethodName := ⟨RX13, "condition", "(J)I"⟩
abbrev cX13_endsOperand : ByteArray := prog_15_method_36_code
def yX13_endsOperand : MethodName := ⟨RX13, "endsOperand", "()Z"⟩
abbrev cX13_isPlace : ByteArray := prog_15_method_37_code
def yX13_isPlace : MethodName := ⟨RX13, "isPlace", "()Z"⟩
abbrev cX13_readOperand : ByteArray := prog_15_method_38_code
def yX13_readOperand : MethodName := ⟨RX13, "readOperand", "()Z"⟩
abbrev cX13_setRegister : ByteArray := prog_15_method_39_code
def yX13_setRegister : MethodName := ⟨RX13, "setRegister", "(IJ)V"⟩
abbrev cX13_readPlace : ByteArray := prog_15_method_40_code
def yX13_readPlace : MethodName := ⟨RX13, "readPlace", "(I)Z"⟩
abbrev cX13_readOperands : ByteArray := prog_15_method_41_code
def yX13_readOperands : MethodName := ⟨RX13, "readOperands", "()Z"⟩
abbrev cX13_give : ByteArray := prog_15_method_42_code
def yX13_give : MethodName := ⟨RX13, "give", "(III)Z"⟩
abbrev cX13_giveWith : ByteArray := prog_15_method_43_code
def yX13_giveWith : MethodName := ⟨RX13, "giveWith", "(IIIII)Z"⟩
abbrev cX13_is : ByteArray := prog_15_method_44_code
def yX13_is : MethodName := ⟨RX13, "is", "(II)Z"⟩
abbrev cX13_isA : ByteArray := prog_15_method_45_code
def yX13_isA : MethodName := ⟨RX13, "isA", "(I)Z"⟩
abbrev cX13_isHL : ByteArray := prog_15_method_46_code
def yX13_isHL : MethodName := ⟨RX13, "isHL", "(I)Z"⟩
abbrev cX13_frontOf : ByteArray := prog_15_method_47_code
def yX13_frontOf : MethodName := ⟨RX13, "frontOf", "(I)I"⟩
abbrev cX13_octetOf : ByteArray := prog_15_method_48_code
def yX13_octetOf : MethodName := ⟨RX13, "octetOf", "(I)I"⟩
abbrev cX13_giveOctet : ByteArray := prog_15_method_49_code
def yX13_giveOctet : MethodName := ⟨RX13, "giveOctet", "(III)Z"⟩
abbrev cX13_conditionOf : ByteArray := prog_15_method_50_code
def yX13_conditionOf : MethodName := ⟨RX13, "conditionOf", "(I)I"⟩
abbrev cX13_encode : ByteArray := prog_15_method_51_code
def yX13_encode : MethodName := ⟨RX13, "encode", "(J)Z"⟩
abbrev cX13_shiftOf : ByteArray := prog_15_method_52_code
def yX13_shiftOf : MethodName := ⟨RX13, "shiftOf", "(J)I"⟩
abbrev cX13_alone : ByteArray := prog_15_method_53_code
def yX13_alone : MethodName := ⟨RX13, "alone", "(J)I"⟩
abbrev cX13_encodeOne : ByteArray := prog_15_method_54_code
def yX13_encodeOne : MethodName := ⟨RX13, "encodeOne", "(J)Z"⟩
abbrev cX13_encodeTwo : ByteArray := prog_15_method_55_code
def yX13_encodeTwo : MethodName := ⟨RX13, "encodeTwo", "(J)Z"⟩
abbrev cX13_encodeSum : ByteArray := prog_15_method_56_code
def yX13_encodeSum : MethodName := ⟨RX13, "encodeSum", "(J)Z"⟩
abbrev cX13_encodeLoad : ByteArray := prog_15_method_57_code
def yX13_encodeLoad : MethodName := ⟨RX13, "encodeLoad", "()Z"⟩
abbrev cX13_lengthOf : ByteArray := prog_15_method_58_code
def yX13_lengthOf : MethodName := ⟨RX13, "lengthOf", "()I"⟩
abbrev cX13_lay : ByteArray := prog_15_method_59_code
def yX13_lay : MethodName := ⟨RX13, "lay", "(I)V"⟩
abbrev cX13_isDone : ByteArray := prog_15_method_60_code
def yX13_isDone : MethodName := ⟨RX13, "isDone", "()Z"⟩
abbrev cX13_pass : ByteArray := prog_15_method_61_code
def yX13_pass : MethodName := ⟨RX13, "pass", "()Z"⟩
abbrev cX13_readLine : ByteArray := prog_15_method_62_code
def yX13_readLine : MethodName := ⟨RX13, "readLine", "()Z"⟩
abbrev cX13_tell : ByteArray := prog_15_method_63_code
def yX13_tell : MethodName := ⟨RX13, "tell", "(IIJI)Z"⟩
abbrev cX13_equal : ByteArray := prog_15_method_64_code
def yX13_equal : MethodName := ⟨RX13, "equal", "(IIJ)Z"⟩
abbrev cX13_statement : ByteArray := prog_15_method_65_code
def yX13_statement : MethodName := ⟨RX13, "statement", "(IJ)Z"⟩
abbrev cX13_expValue : ByteArray := prog_15_method_66_code
def yX13_expValue : MethodName := ⟨RX13, "expValue", "(I)I"⟩
abbrev cX13_work : ByteArray := prog_15_method_67_code
def yX13_work : MethodName := ⟨RX13, "work", "(II)Z"⟩
abbrev cX13_layInstruction : ByteArray := prog_15_method_68_code
def yX13_layInstruction : MethodName := ⟨RX13, "layInstruction", "(I)Z"⟩
abbrev cX13_directive : ByteArray := prog_15_method_69_code
def yX13_directive : MethodName := ⟨RX13, "directive", "(IJ)Z"⟩
abbrev cX13_turn : ByteArray := prog_15_method_70_code
def yX13_turn : MethodName := ⟨RX13, "turn", "(IJZ)Z"⟩
abbrev cX13_data : ByteArray := prog_15_method_71_code
def yX13_data : MethodName := ⟨RX13, "data", "(IZ)Z"⟩
abbrev cX13_space : ByteArray := prog_15_method_72_code
def yX13_space : MethodName := ⟨RX13, "space", "(I)Z"⟩
abbrev cX13_anyName : ByteArray := prog_15_method_73_code
def yX13_anyName : MethodName := ⟨RX13, "anyName", "()J"⟩
abbrev cX13_skipLine : ByteArray := prog_15_method_74_code
def yX13_skipLine : MethodName := ⟨RX13, "skipLine", "()Z"⟩
abbrev cX13_forge : ByteArray := prog_15_method_75_code
def yX13_forge : MethodName := ⟨RX13, "forge", "()I"⟩
abbrev cX13_told : ByteArray := prog_15_method_76_code
def yX13_told : MethodName := ⟨RX13, "told", "(I)I"⟩
abbrev cX13_label : ByteArray := prog_15_method_77_code
def yX13_label : MethodName := ⟨RX13, "label", "(I)I"⟩
abbrev cX13_labelSign : ByteArray := prog_15_method_78_code
def yX13_labelSign : MethodName := ⟨RX13, "labelSign", "(II)I"⟩
abbrev cX13_peek : ByteArray := prog_15_method_79_code
def yX13_peek : MethodName := ⟨RX13, "peek", "(I)I"⟩
abbrev cX13_wide : ByteArray := prog_15_method_80_code
def yX13_wide : MethodName := ⟨RX13, "wide", "(I)I"⟩
abbrev cX13_signed : ByteArray := prog_15_method_81_code
def yX13_signed : MethodName := ⟨RX13, "signed", "(I)I"⟩
abbrev cX13_plainLength : ByteArray := prog_15_method_82_code
def yX13_plainLength : MethodName := ⟨RX13, "plainLength", "(I)I"⟩
abbrev cX13_hasPlace : ByteArray := prog_15_method_83_code
def yX13_hasPlace : MethodName := ⟨RX13, "hasPlace", "(I)Z"⟩
abbrev cX13_hasHL : ByteArray := prog_15_method_84_code
def yX13_hasHL : MethodName := ⟨RX13, "hasHL", "(I)Z"⟩
abbrev cX13_isBehind237 : ByteArray := prog_15_method_85_code
def yX13_isBehind237 : MethodName := ⟨RX13, "isBehind237", "(I)Z"⟩
abbrev cX13_decode : ByteArray := prog_15_method_86_code
def yX13_decode : MethodName := ⟨RX13, "decode", "(I)Z"⟩
abbrev cX13_one : ByteArray := prog_15_method_87_code
def yX13_one : MethodName := ⟨RX13, "one", "(I)V"⟩
abbrev cX13_say : ByteArray := prog_15_method_88_code
def yX13_say : MethodName := ⟨RX13, "say", "(J)V"⟩
abbrev cX13_number : ByteArray := prog_15_method_89_code
def yX13_number : MethodName := ⟨RX13, "number", "(I)V"⟩
abbrev cX13_place : ByteArray := prog_15_method_90_code
def yX13_place : MethodName := ⟨RX13, "place", "()V"⟩
abbrev cX13_indexName : ByteArray := prog_15_method_91_code
def yX13_indexName : MethodName := ⟨RX13, "indexName", "()V"⟩
abbrev cX13_octetName : ByteArray := prog_15_method_92_code
def yX13_octetName : MethodName := ⟨RX13, "octetName", "(I)V"⟩
abbrev cX13_pairName : ByteArray := prog_15_method_93_code
def yX13_pairName : MethodName := ⟨RX13, "pairName", "(IZ)V"⟩
abbrev cX13_conditionName : ByteArray := prog_15_method_94_code
def yX13_conditionName : MethodName := ⟨RX13, "conditionName", "(I)V"⟩
abbrev cX13_sumName : ByteArray := prog_15_method_95_code
def yX13_sumName : MethodName := ⟨RX13, "sumName", "(I)V"⟩
abbrev cX13_m : ByteArray := prog_15_method_96_code
def yX13_m : MethodName := ⟨RX13, "m", "()V"⟩
abbrev cX13_placeM : ByteArray := prog_15_method_97_code
def yX13_placeM : MethodName := ⟨RX13, "placeM", "()V"⟩
abbrev cX13_n : ByteArray := prog_15_method_98_code
def yX13_n : MethodName := ⟨RX13, "n", "()V"⟩
abbrev cX13_near : ByteArray := prog_15_method_99_code
def yX13_near : MethodName := ⟨RX13, "near", "(I)V"⟩
abbrev cX13_writeFirst : ByteArray := prog_15_method_100_code
def yX13_writeFirst : MethodName := ⟨RX13, "writeFirst", "(I)V"⟩
abbrev cX13_writeLoad : ByteArray := prog_15_method_101_code
def yX13_writeLoad : MethodName := ⟨RX13, "writeLoad", "(I)V"⟩
abbrev cX13_writeLast : ByteArray := prog_15_method_102_code
def yX13_writeLast : MethodName := ⟨RX13, "writeLast", "()V"⟩
abbrev cX13_writeThird : ByteArray := prog_15_method_103_code
def yX13_writeThird : MethodName := ⟨RX13, "writeThird", "(I)V"⟩
abbrev cX13_write237 : ByteArray := prog_15_method_104_code
def yX13_write237 : MethodName := ⟨RX13, "write237", "()V"⟩
abbrev cX13_write203 : ByteArray := prog_15_method_105_code
def yX13_write203 : MethodName := ⟨RX13, "write203", "()V"⟩
abbrev cX13_writeAt : ByteArray := prog_15_method_106_code
def yX13_writeAt : MethodName := ⟨RX13, "writeAt", "(I)I"⟩
abbrev cX13_write : ByteArray := prog_15_method_107_code
def yX13_write : MethodName := ⟨RX13, "write", "(I)I"⟩
abbrev cX13_sign : ByteArray := prog_15_method_108_code
def yX13_sign : MethodName := ⟨RX13, "sign", "(I)I"⟩
abbrev cX13_source : ByteArray := prog_15_method_109_code
def yX13_source : MethodName := ⟨RX13, "source", "(II)I"⟩
abbrev cX13_octet : ByteArray := prog_15_method_110_code
def yX13_octet : MethodName := ⟨RX13, "octet", "(I)I"⟩
abbrev cX13_put : ByteArray := prog_15_method_111_code
def yX13_put : MethodName := ⟨RX13, "put", "(II)I"⟩
abbrev cX13_clear : ByteArray := prog_15_method_112_code
def yX13_clear : MethodName := ⟨RX13, "clear", "()V"⟩
abbrev cX13_two : ByteArray := prog_15_method_113_code
def yX13_two : MethodName := ⟨RX13, "two", "(I)I"⟩
abbrev cX13_setTwo : ByteArray := prog_15_method_114_code
def yX13_setTwo : MethodName := ⟨RX13, "setTwo", "(II)V"⟩
abbrev cX13_at : ByteArray := prog_15_method_115_code
def yX13_at : MethodName := ⟨RX13, "at", "(I)I"⟩
abbrev cX13_register : ByteArray := prog_15_method_116_code
def yX13_register : MethodName := ⟨RX13, "register", "(I)I"⟩
abbrev cX13_set : ByteArray := prog_15_method_117_code
def yX13_set : MethodName := ⟨RX13, "set", "(II)I"⟩
abbrev cX13_port : ByteArray := prog_15_method_118_code
def yX13_port : MethodName := ⟨RX13, "port", "(II)I"⟩
abbrev cX13_out : ByteArray := prog_15_method_119_code
def yX13_out : MethodName := ⟨RX13, "out", "(I)I"⟩
abbrev cX13_outs : ByteArray := prog_15_method_120_code
def yX13_outs : MethodName := ⟨RX13, "outs", "()J"⟩
abbrev cX13_request : ByteArray := prog_15_method_121_code
def yX13_request : MethodName := ⟨RX13, "request", "(II)I"⟩
abbrev cX13_store : ByteArray := prog_15_method_122_code
def yX13_store : MethodName := ⟨RX13, "store", "(II)V"⟩
abbrev cX13_pushTwo : ByteArray := prog_15_method_123_code
def yX13_pushTwo : MethodName := ⟨RX13, "pushTwo", "(I)V"⟩
abbrev cX13_popTwo : ByteArray := prog_15_method_124_code
def yX13_popTwo : MethodName := ⟨RX13, "popTwo", "()I"⟩
abbrev cX13_outPort : ByteArray := prog_15_method_125_code
def yX13_outPort : MethodName := ⟨RX13, "outPort", "(II)V"⟩
abbrev cX13_goOn : ByteArray := prog_15_method_126_code
def yX13_goOn : MethodName := ⟨RX13, "goOn", "(I)V"⟩
abbrev cX13_parity : ByteArray := prog_15_method_127_code
def yX13_parity : MethodName := ⟨RX13, "parity", "(I)I"⟩
abbrev cX13_signs : ByteArray := prog_15_method_128_code
def yX13_signs : MethodName := ⟨RX13, "signs", "(I)I"⟩
abbrev cX13_sum : ByteArray := prog_15_method_129_code
def yX13_sum : MethodName := ⟨RX13, "sum", "(III)I"⟩
abbrev cX13_difference : ByteArray := prog_15_method_130_code
def yX13_difference : MethodName := ⟨RX13, "difference", "(III)I"⟩
abbrev cX13_reckon : ByteArray := prog_15_method_131_code
def yX13_reckon : MethodName := ⟨RX13, "reckon", "(II)V"⟩
abbrev cX13_stepUp : ByteArray := prog_15_method_132_code
def yX13_stepUp : MethodName := ⟨RX13, "stepUp", "(IZ)I"⟩
abbrev cX13_turned : ByteArray := prog_15_method_133_code
def yX13_turned : MethodName := ⟨RX13, "turned", "(II)I"⟩
abbrev cX13_base : ByteArray := prog_15_method_134_code
def yX13_base : MethodName := ⟨RX13, "base", "()I"⟩
abbrev cX13_setBase : ByteArray := prog_15_method_135_code
def yX13_setBase : MethodName := ⟨RX13, "setBase", "(I)V"⟩
abbrev cX13_placeAt : ByteArray := prog_15_method_136_code
def yX13_placeAt : MethodName := ⟨RX13, "placeAt", "()I"⟩
abbrev cX13_octetAt : ByteArray := prog_15_method_137_code
def yX13_octetAt : MethodName := ⟨RX13, "octetAt", "(I)I"⟩
abbrev cX13_setOctet : ByteArray := prog_15_method_138_code
def yX13_setOctet : MethodName := ⟨RX13, "setOctet", "(II)V"⟩
abbrev cX13_pairAt : ByteArray := prog_15_method_139_code
def yX13_pairAt : MethodName := ⟨RX13, "pairAt", "(I)I"⟩
abbrev cX13_setPair : ByteArray := prog_15_method_140_code
def yX13_setPair : MethodName := ⟨RX13, "setPair", "(II)V"⟩
abbrev cX13_holds : ByteArray := prog_15_method_141_code
def yX13_holds : MethodName := ⟨RX13, "holds", "(I)Z"⟩
abbrev cX13_takeRequest : ByteArray := prog_15_method_142_code
def yX13_takeRequest : MethodName := ⟨RX13, "takeRequest", "()Z"⟩
abbrev cX13_step : ByteArray := prog_15_method_143_code
def yX13_step : MethodName := ⟨RX13, "step", "()I"⟩
abbrev cX13_run : ByteArray := prog_15_method_144_code
def yX13_run : MethodName := ⟨RX13, "run", "(I)I"⟩
abbrev cX13_do203 : ByteArray := prog_15_method_145_code
def yX13_do203 : MethodName := ⟨RX13, "do203", "()V"⟩
abbrev cX13_doFirst : ByteArray := prog_15_method_146_code
def yX13_doFirst : MethodName := ⟨RX13, "doFirst", "()V"⟩
abbrev cX13_exchange : ByteArray := prog_15_method_147_code
def yX13_exchange : MethodName := ⟨RX13, "exchange", "(I)V"⟩
abbrev cX13_doNear : ByteArray := prog_15_method_148_code
def yX13_doNear : MethodName := ⟨RX13, "doNear", "(I)V"⟩
abbrev cX13_addPair : ByteArray := prog_15_method_149_code
def yX13_addPair : MethodName := ⟨RX13, "addPair", "(I)V"⟩
abbrev cX13_doLoad : ByteArray := prog_15_method_150_code
def yX13_doLoad : MethodName := ⟨RX13, "doLoad", "(I)V"⟩
abbrev cX13_doAlone : ByteArray := prog_15_method_151_code
def yX13_doAlone : MethodName := ⟨RX13, "doAlone", "(I)V"⟩
abbrev cX13_adjust : ByteArray := prog_15_method_152_code
def yX13_adjust : MethodName := ⟨RX13, "adjust", "()V"⟩
abbrev cX13_doLast : ByteArray := prog_15_method_153_code
def yX13_doLast : MethodName := ⟨RX13, "doLast", "()V"⟩
abbrev cX13_doReturns : ByteArray := prog_15_method_154_code
def yX13_doReturns : MethodName := ⟨RX13, "doReturns", "(IZ)V"⟩
abbrev cX13_doThird : ByteArray := prog_15_method_155_code
def yX13_doThird : MethodName := ⟨RX13, "doThird", "(I)V"⟩
abbrev cX13_do237 : ByteArray := prog_15_method_156_code
def yX13_do237 : MethodName := ⟨RX13, "do237", "(I)V"⟩
abbrev cX13_wideSum : ByteArray := prog_15_method_157_code
def yX13_wideSum : MethodName := ⟨RX13, "wideSum", "(IZ)V"⟩
abbrev cX13_doHalves : ByteArray := prog_15_method_158_code
def yX13_doHalves : MethodName := ⟨RX13, "doHalves", "(I)V"⟩
abbrev cX13_doBlock : ByteArray := prog_15_method_159_code
def yX13_doBlock : MethodName := ⟨RX13, "doBlock", "(III)V"⟩
abbrev cX13_portFlags : ByteArray := prog_15_method_160_code
def yX13_portFlags : MethodName := ⟨RX13, "portFlags", "(II)V"⟩
def RJx145de : String := "java/io/Serializable"
def TJx145de : u_T := fun k => match k with
  | _ => ("", "", "", false)
def tyJx145de : Nat → FieldType := fun k => match k with
  | _ => .int
abbrev wsJx145de0 : List Cond := u_ws RJx145de TJx145de 0
theorem nmJx145de : ∀ a, a < 0 → ∀ b, b < 0 → a ≠ b → (TJx145de a).2.1 ≠ (TJx145de b).2.1 := by decide +kernel
theorem tyJx145de_ok : ∀ k, k < 0 → parseFieldDescriptor (TJx145de k).2.2.1 = some (tyJx145de k) := by decide +kernel
def RJx9f9b0 : String := "java/lang/CharSequence"
def TJx9f9b0 : u_T := fun k => match k with
  | _ => ("", "", "", false)
def tyJx9f9b0 : Nat → FieldType := fun k => match k with
  | _ => .int
abbrev wsJx9f9b00 : List Cond := u_ws RJx9f9b0 TJx9f9b0 0
theorem nmJx9f9b0 : ∀ a, a < 0 → ∀ b, b < 0 → a ≠ b → (TJx9f9b0 a).2.1 ≠ (TJx9f9b0 b).2.1 := by decide +kernel
theorem tyJx9f9b0_ok : ∀ k, k < 0 → parseFieldDescriptor (TJx9f9b0 k).2.2.1 = some (tyJx9f9b0 k) := by decide +kernel
def RJ11 : String := "java/lang/Character"
def TJ11 : u_T := fun k => match k with
  | _ => ("", "", "", false)
def tyJ11 : Nat → FieldType := fun k => match k with
  | _ => .int
abbrev wsJ110 : List Cond := u_ws RJ11 TJ11 0
theorem nmJ11 : ∀ a, a < 0 → ∀ b, b < 0 → a ≠ b → (TJ11 a).2.1 ≠ (TJ11 b).2.1 := by decide +kernel
theorem tyJ11_ok : ∀ k, k < 0 → parseFieldDescriptor (TJ11 k).2.2.1 = some (tyJ11 k) := by decide +kernel
abbrev cJ11_isValidCodePoint_9a6ad : ByteArray := prog_16_method_11_code
def yJ11_isValidCodePoint_9a6ad : MethodName := ⟨RJ11, "isValidCodePoint", "(I)Z"⟩
abbrev cJ11_highSurrogate_5068e : ByteArray := prog_16_method_28_code
def yJ11_highSurrogate_5068e : MethodName := ⟨RJ11, "highSurrogate", "(I)C"⟩
abbrev cJ11_lowSurrogate_5068e : ByteArray := prog_16_method_29_code
def yJ11_lowSurrogate_5068e : MethodName := ⟨RJ11, "lowSurrogate", "(I)C"⟩
def RJxb160c : String := "java/lang/Comparable"
def TJxb160c : u_T := fun k => match k with
  | _ => ("", "", "", false)
def tyJxb160c : Nat → FieldType := fun k => match k with
  | _ => .int
abbrev wsJxb160c0 : List Cond := u_ws RJxb160c TJxb160c 0
theorem nmJxb160c : ∀ a, a < 0 → ∀ b, b < 0 → a ≠ b → (TJxb160c a).2.1 ≠ (TJxb160c b).2.1 := by decide +kernel
theorem tyJxb160c_ok : ∀ k, k < 0 → parseFieldDescriptor (TJxb160c k).2.2.1 = some (tyJxb160c k) := by decide +kernel
def RJ6 : String := "java/lang/Integer"
def TJ6 : u_T := fun k => match k with
  | _ => ("", "", "", false)
def tyJ6 : Nat → FieldType := fun k => match k with
  | _ => .int
abbrev wsJ60 : List Cond := u_ws RJ6 TJ6 0
theorem nmJ6 : ∀ a, a < 0 → ∀ b, b < 0 → a ≠ b → (TJ6 a).2.1 ≠ (TJ6 b).2.1 := by decide +kernel
theorem tyJ6_ok : ∀ k, k < 0 → parseFieldDescriptor (TJ6 k).2.2.1 = some (tyJ6 k) := by decide +kernel
abbrev cJ6_bitCount_0f7a4 : ByteArray := prog_17_method_49_code
def yJ6_bitCount_0f7a4 : MethodName := ⟨RJ6, "bitCount", "(I)I"⟩
def RJ9 : String := "java/lang/Math"
def TJ9 : u_T := fun k => match k with
  | _ => ("", "", "", false)
def tyJ9 : Nat → FieldType := fun k => match k with
  | _ => .int
abbrev wsJ90 : List Cond := u_ws RJ9 TJ9 0
theorem nmJ9 : ∀ a, a < 0 → ∀ b, b < 0 → a ≠ b → (TJ9 a).2.1 ≠ (TJ9 b).2.1 := by decide +kernel
theorem tyJ9_ok : ∀ k, k < 0 → parseFieldDescriptor (TJ9 k).2.2.1 = some (tyJ9 k) := by decide +kernel
abbrev cJ9_abs_0f7a4 : ByteArray := prog_18_method_59_code
def yJ9_abs_0f7a4 : MethodName := ⟨RJ9, "abs", "(I)I"⟩
abbrev cJ9_max_7cf53 : ByteArray := prog_18_method_65_code
def yJ9_max_7cf53 : MethodName := ⟨RJ9, "max", "(II)I"⟩
abbrev cJ9_min_7cf53 : ByteArray := prog_18_method_69_code
def yJ9_min_7cf53 : MethodName := ⟨RJ9, "min", "(II)I"⟩
def RJ0 : String := "java/lang/String"
def TJ0 : u_T := fun k => match k with
  | _ => ("", "", "", false)
def tyJ0 : Nat → FieldType := fun k => match k with
  | _ => .int
abbrev wsJ00 : List Cond := u_ws RJ0 TJ0 0
theorem nmJ0 : ∀ a, a < 0 → ∀ b, b < 0 → a ≠ b → (TJ0 a).2.1 ≠ (TJ0 b).2.1 := by decide +kernel
theorem tyJ0_ok : ∀ k, k < 0 → parseFieldDescriptor (TJ0 k).2.2.1 = some (tyJ0 k) := by decide +kernel
abbrev cJ0_length_8abf5 : ByteArray := prog_19_method_54_code
def yJ0_length_8abf5 : MethodName := ⟨RJ0, "length", "()I"⟩
abbrev cJ0_charAt_5068e : ByteArray := prog_19_method_56_code
def yJ0_charAt_5068e : MethodName := ⟨RJ0, "charAt", "(I)C"⟩
abbrev cJ0_indexOf_0f7a4 : ByteArray := prog_19_method_79_code
def yJ0_indexOf_0f7a4 : MethodName := ⟨RJ0, "indexOf", "(I)I"⟩
abbrev cJ0_indexOf_7cf53 : ByteArray := prog_19_method_80_code
def yJ0_indexOf_7cf53 : MethodName := ⟨RJ0, "indexOf", "(II)I"⟩
abbrev cJ0_coder_7d493 : ByteArray := prog_19_method_152_code
def yJ0_coder_7d493 : MethodName := ⟨RJ0, "coder", "()B"⟩
abbrev cJ0_isLatin1_aae02 : ByteArray := prog_19_method_154_code
def yJ0_isLatin1_aae02 : MethodName := ⟨RJ0, "isLatin1", "()Z"⟩
abbrev cJ0_checkIndex_df160 : ByteArray := prog_19_method_155_code
def yJ0_checkIndex_df160 : MethodName := ⟨RJ0, "checkIndex", "(II)V"⟩
abbrev cJ0_checkBoundsBeginEnd_23922 : ByteArray := prog_19_method_158_code
def yJ0_checkBoundsBeginEnd_23922 : MethodName := ⟨RJ0, "checkBoundsBeginEnd", "(III)V"⟩
def RJ1 : String := "java/lang/StringLatin1"
def TJ1 : u_T := fun k => match k with
  | _ => ("", "", "", false)
def tyJ1 : Nat → FieldType := fun k => match k with
  | _ => .int
abbrev wsJ10 : List Cond := u_ws RJ1 TJ1 0
theorem nmJ1 : ∀ a, a < 0 → ∀ b, b < 0 → a ≠ b → (TJ1 a).2.1 ≠ (TJ1 b).2.1 := by decide +kernel
theorem tyJ1_ok : ∀ k, k < 0 → parseFieldDescriptor (TJ1 k).2.2.1 = some (tyJ1 k) := by decide +kernel
abbrev cJ1_charAt_3b067 : ByteArray := prog_20_method_2_code
def yJ1_charAt_3b067 : MethodName := ⟨RJ1, "charAt", "([BI)C"⟩
abbrev cJ1_canEncode_9a6ad : ByteArray := prog_20_method_4_code
def yJ1_canEncode_9a6ad : MethodName := ⟨RJ1, "canEncode", "(I)Z"⟩
abbrev cJ1_indexOf_4cfef : ByteArray := prog_20_method_22_code
def yJ1_indexOf_4cfef : MethodName := ⟨RJ1, "indexOf", "([BIII)I"⟩
abbrev cJ1_indexOfChar_4cfef : ByteArray := prog_20_method_23_code
def yJ1_indexOfChar_4cfef : MethodName := ⟨RJ1, "indexOfChar", "([BIII)I"⟩
def RJ2 : String := "java/lang/StringUTF16"
def TJ2 : u_T := fun k => match k with
  | _ => ("", "", "", false)
def tyJ2 : Nat → FieldType := fun k => match k with
  | _ => .int
abbrev wsJ20 : List Cond := u_ws RJ2 TJ2 0
theorem nmJ2 : ∀ a, a < 0 → ∀ b, b < 0 → a ≠ b → (TJ2 a).2.1 ≠ (TJ2 b).2.1 := by decide +kernel
theorem tyJ2_ok : ∀ k, k < 0 → parseFieldDescriptor (TJ2 k).2.2.1 = some (tyJ2 k) := by decide +kernel
abbrev cJ2_getChar_3b067 : ByteArray := prog_21_method_5_code
def yJ2_getChar_3b067 : MethodName := ⟨RJ2, "getChar", "([BI)C"⟩
abbrev cJ2_length_9d52b : ByteArray := prog_21_method_6_code
def yJ2_length_9d52b : MethodName := ⟨RJ2, "length", "([B)I"⟩
abbrev cJ2_indexOf_4cfef : ByteArray := prog_21_method_40_code
def yJ2_indexOf_4cfef : MethodName := ⟨RJ2, "indexOf", "([BIII)I"⟩
abbrev cJ2_indexOfChar_4cfef : ByteArray := prog_21_method_47_code
def yJ2_indexOfChar_4cfef : MethodName := ⟨RJ2, "indexOfChar", "([BIII)I"⟩
abbrev cJ2_indexOfCharUnsafe_4cfef : ByteArray := prog_21_method_48_code
def yJ2_indexOfCharUnsafe_4cfef : MethodName := ⟨RJ2, "indexOfCharUnsafe", "([BIII)I"⟩
abbrev cJ2_indexOfSupplementary_4cfef : ByteArray := prog_21_method_49_code
def yJ2_indexOfSupplementary_4cfef : MethodName := ⟨RJ2, "indexOfSupplementary", "([BIII)I"⟩
abbrev cJ2_charAt_3b067 : ByteArray := prog_21_method_83_code
def yJ2_charAt_3b067 : MethodName := ⟨RJ2, "charAt", "([BI)C"⟩
abbrev cJ2_checkIndex_2214a : ByteArray := prog_21_method_91_code
def yJ2_checkIndex_2214a : MethodName := ⟨RJ2, "checkIndex", "(I[B)V"⟩
abbrev cJ2_checkBoundsBeginEnd_d044e : ByteArray := prog_21_method_93_code
def yJ2_checkBoundsBeginEnd_d044e : MethodName := ⟨RJ2, "checkBoundsBeginEnd", "(II[B)V"⟩
def RJxfd54e : String := "java/lang/constant/Constable"
def TJxfd54e : u_T := fun k => match k with
  | _ => ("", "", "", false)
def tyJxfd54e : Nat → FieldType := fun k => match k with
  | _ => .int
abbrev wsJxfd54e0 : List Cond := u_ws RJxfd54e TJxfd54e 0
theorem nmJxfd54e : ∀ a, a < 0 → ∀ b, b < 0 → a ≠ b → (TJxfd54e a).2.1 ≠ (TJxfd54e b).2.1 := by decide +kernel
theorem tyJxfd54e_ok : ∀ k, k < 0 → parseFieldDescriptor (TJxfd54e k).2.2.1 = some (tyJxfd54e k) := by decide +kernel
def RJx3cf43 : String := "java/lang/constant/ConstantDesc"
def TJx3cf43 : u_T := fun k => match k with
  | _ => ("", "", "", false)
def tyJx3cf43 : Nat → FieldType := fun k => match k with
  | _ => .int
abbrev wsJx3cf430 : List Cond := u_ws RJx3cf43 TJx3cf43 0
theorem nmJx3cf43 : ∀ a, a < 0 → ∀ b, b < 0 → a ≠ b → (TJx3cf43 a).2.1 ≠ (TJx3cf43 b).2.1 := by decide +kernel
theorem tyJx3cf43_ok : ∀ k, k < 0 → parseFieldDescriptor (TJx3cf43 k).2.2.1 = some (tyJx3cf43 k) := by decide +kernel
def RJ7 : String := "java/util/Arrays"
def TJ7 : u_T := fun k => match k with
  | _ => ("", "", "", false)
def tyJ7 : Nat → FieldType := fun k => match k with
  | _ => .int
abbrev wsJ70 : List Cond := u_ws RJ7 TJ7 0
theorem nmJ7 : ∀ a, a < 0 → ∀ b, b < 0 → a ≠ b → (TJ7 a).2.1 ≠ (TJ7 b).2.1 := by decide +kernel
theorem tyJ7_ok : ∀ k, k < 0 → parseFieldDescriptor (TJ7 k).2.2.1 = some (tyJ7 k) := by decide +kernel
abbrev cJ7_rangeCheck_23922 : ByteArray := prog_22_method_30_code
def yJ7_rangeCheck_23922 : MethodName := ⟨RJ7, "rangeCheck", "(III)V"⟩
abbrev cJ7_fill_53178 : ByteArray := prog_22_method_103_code
def yJ7_fill_53178 : MethodName := ⟨RJ7, "fill", "([II)V"⟩
abbrev cJ7_fill_eb02e : ByteArray := prog_22_method_110_code
def yJ7_fill_eb02e : MethodName := ⟨RJ7, "fill", "([BIIB)V"⟩
def RJ3 : String := "jdk/internal/util/Preconditions"
def TJ3 : u_T := fun k => match k with
  | _ => ("", "", "", false)
def tyJ3 : Nat → FieldType := fun k => match k with
  | _ => .int
abbrev wsJ30 : List Cond := u_ws RJ3 TJ3 0
theorem nmJ3 : ∀ a, a < 0 → ∀ b, b < 0 → a ≠ b → (TJ3 a).2.1 ≠ (TJ3 b).2.1 := by decide +kernel
theorem tyJ3_ok : ∀ k, k < 0 → parseFieldDescriptor (TJ3 k).2.2.1 = some (tyJ3 k) := by decide +kernel
abbrev cJ3_checkIndex_8e157 : ByteArray := prog_23_method_11_code
def yJ3_checkIndex_8e157 : MethodName := ⟨RJ3, "checkIndex", "(IILjava/util/function/BiFunction;)I"⟩
abbrev cJ3_checkFromToIndex_8c36e : ByteArray := prog_23_method_12_code
def yJ3_checkFromToIndex_8c36e : MethodName := ⟨RJ3, "checkFromToIndex", "(IIILjava/util/function/BiFunction;)I"⟩
def RL : String := "OpcodeForgeLaw"
abbrev cL_law : ByteArray := code
def yL_law : MethodName := ⟨RL, "law", "([I)Z"⟩
abbrev vwCl : List vw_C := [(RX0, TX0, 2), (RX1, TX1, 13), (RX2, TX2, 3), (RX3, TX3, 17), (RX4, TX4, 11), (RX5, TX5, 10), (RX6, TX6, 1), (RX7, TX7, 7), (RX8, TX8, 9), (RX9, TX9, 3), (RX10, TX10, 2), (RX11, TX11, 7), (RX12, TX12, 8), (RX13, TX13, 87)]
