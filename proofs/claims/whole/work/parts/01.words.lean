-- ===== PART A: goes FIRST, ahead of the names: the tables' words, and 'selects' of the private methods out of them =====
/-- a private method of a class that the tables say can be made, by its rows of tables_1 -/
def lw_okq (q : MethodName × Nat) : Prop := (q.1.cls ≠ "java/lang/invoke/MethodHandle" ∧ q.1.cls ≠ "java/lang/invoke/VarHandle") ∧ Cond.instantiable q.1.cls q.2 ∈ tables_1 ∧ Cond.privateMethod q.1 ∈ tables_1 ∧ Cond.instanceMethod q.1 ∈ tables_1
theorem lw_p0 : lw_okq (⟨"TermMachine$Program", "fillTerm", "(LTermMachine$Text;II)I"⟩, 6) := ⟨⟨by decide +kernel, by decide +kernel⟩, List.mem_of_getElem? (i := 215) (by decide +kernel), List.mem_of_getElem? (i := 300) (by decide +kernel), List.mem_of_getElem? (i := 301) (by decide +kernel)⟩
theorem lw_p1 : lw_okq (⟨"TermMachine$Program", "add", "(I)I"⟩, 6) := ⟨⟨by decide +kernel, by decide +kernel⟩, List.mem_of_getElem? (i := 215) (by decide +kernel), List.mem_of_getElem? (i := 305) (by decide +kernel), List.mem_of_getElem? (i := 306) (by decide +kernel)⟩
theorem lw_p2 : lw_okq (⟨"java/lang/Throwable", "fillInStackTrace", "(I)Ljava/lang/Throwable;"⟩, 6) := ⟨⟨by decide +kernel, by decide +kernel⟩, List.mem_of_getElem? (i := 398) (by decide +kernel), List.mem_of_getElem? (i := 396) (by decide +kernel), List.mem_of_getElem? (i := 397) (by decide +kernel)⟩
theorem lw_p3 : lw_okq (⟨"TermMachine$Work", "compute", "(II)V"⟩, 11) := ⟨⟨by decide +kernel, by decide +kernel⟩, List.mem_of_getElem? (i := 49) (by decide +kernel), List.mem_of_getElem? (i := 463) (by decide +kernel), List.mem_of_getElem? (i := 464) (by decide +kernel)⟩
theorem lw_p4 : lw_okq (⟨"TermMachine$Work", "operates", "()Z"⟩, 11) := ⟨⟨by decide +kernel, by decide +kernel⟩, List.mem_of_getElem? (i := 49) (by decide +kernel), List.mem_of_getElem? (i := 480) (by decide +kernel), List.mem_of_getElem? (i := 481) (by decide +kernel)⟩
theorem lw_p5 : lw_okq (⟨"TermMachine$Work", "end", "(I)V"⟩, 11) := ⟨⟨by decide +kernel, by decide +kernel⟩, List.mem_of_getElem? (i := 49) (by decide +kernel), List.mem_of_getElem? (i := 530) (by decide +kernel), List.mem_of_getElem? (i := 531) (by decide +kernel)⟩
theorem lw_p6 : lw_okq (⟨"TermMachine$Work", "stepComputing", "(LTermMachine$Program;)V"⟩, 11) := ⟨⟨by decide +kernel, by decide +kernel⟩, List.mem_of_getElem? (i := 49) (by decide +kernel), List.mem_of_getElem? (i := 534) (by decide +kernel), List.mem_of_getElem? (i := 535) (by decide +kernel)⟩
theorem lw_p7 : lw_okq (⟨"TermMachine$Work", "giveBack", "(I)V"⟩, 11) := ⟨⟨by decide +kernel, by decide +kernel⟩, List.mem_of_getElem? (i := 49) (by decide +kernel), List.mem_of_getElem? (i := 544) (by decide +kernel), List.mem_of_getElem? (i := 545) (by decide +kernel)⟩
theorem lw_p8 : lw_okq (⟨"TermMachine$Work", "goInto", "(LTermMachine$Program;II)V"⟩, 11) := ⟨⟨by decide +kernel, by decide +kernel⟩, List.mem_of_getElem? (i := 49) (by decide +kernel), List.mem_of_getElem? (i := 548) (by decide +kernel), List.mem_of_getElem? (i := 549) (by decide +kernel)⟩
theorem lw_p9 : lw_okq (⟨"TermMachine$Work", "makeValue", "(LTermMachine$Program;)V"⟩, 11) := ⟨⟨by decide +kernel, by decide +kernel⟩, List.mem_of_getElem? (i := 49) (by decide +kernel), List.mem_of_getElem? (i := 560) (by decide +kernel), List.mem_of_getElem? (i := 561) (by decide +kernel)⟩
theorem lw_p10 : lw_okq (⟨"TermMachine$Work", "stepOperating", "()V"⟩, 11) := ⟨⟨by decide +kernel, by decide +kernel⟩, List.mem_of_getElem? (i := 49) (by decide +kernel), List.mem_of_getElem? (i := 572) (by decide +kernel), List.mem_of_getElem? (i := 573) (by decide +kernel)⟩
theorem lw_p11 : lw_okq (⟨"TermMachine$Deed", "fits", "(LTermMachine$Store;)Z"⟩, 7) := ⟨⟨by decide +kernel, by decide +kernel⟩, List.mem_of_getElem? (i := 116) (by decide +kernel), List.mem_of_getElem? (i := 580) (by decide +kernel), List.mem_of_getElem? (i := 581) (by decide +kernel)⟩
theorem lw_p12 : lw_okq (⟨"TermMachine$Deed", "workBytes", "(JJ)V"⟩, 7) := ⟨⟨by decide +kernel, by decide +kernel⟩, List.mem_of_getElem? (i := 116) (by decide +kernel), List.mem_of_getElem? (i := 586) (by decide +kernel), List.mem_of_getElem? (i := 587) (by decide +kernel)⟩
theorem lw_p13 : lw_okq (⟨"TermMachine$Deed", "give", "(IJ)V"⟩, 7) := ⟨⟨by decide +kernel, by decide +kernel⟩, List.mem_of_getElem? (i := 116) (by decide +kernel), List.mem_of_getElem? (i := 596) (by decide +kernel), List.mem_of_getElem? (i := 597) (by decide +kernel)⟩
theorem lw_p14 : lw_okq (⟨"TermMachine$Deed", "giveTruth", "(Z)V"⟩, 7) := ⟨⟨by decide +kernel, by decide +kernel⟩, List.mem_of_getElem? (i := 116) (by decide +kernel), List.mem_of_getElem? (i := 603) (by decide +kernel), List.mem_of_getElem? (i := 604) (by decide +kernel)⟩
theorem lw_p15 : lw_okq (⟨"TermMachine$Deed", "workNumbers", "(JJ)V"⟩, 7) := ⟨⟨by decide +kernel, by decide +kernel⟩, List.mem_of_getElem? (i := 116) (by decide +kernel), List.mem_of_getElem? (i := 607) (by decide +kernel), List.mem_of_getElem? (i := 608) (by decide +kernel)⟩
def lw_privs_1 : List (MethodName × Nat) := [(⟨"TermMachine$Program", "fillTerm", "(LTermMachine$Text;II)I"⟩, 6), (⟨"TermMachine$Program", "add", "(I)I"⟩, 6), (⟨"java/lang/Throwable", "fillInStackTrace", "(I)Ljava/lang/Throwable;"⟩, 6), (⟨"TermMachine$Work", "compute", "(II)V"⟩, 11), (⟨"TermMachine$Work", "operates", "()Z"⟩, 11), (⟨"TermMachine$Work", "end", "(I)V"⟩, 11), (⟨"TermMachine$Work", "stepComputing", "(LTermMachine$Program;)V"⟩, 11), (⟨"TermMachine$Work", "giveBack", "(I)V"⟩, 11), (⟨"TermMachine$Work", "goInto", "(LTermMachine$Program;II)V"⟩, 11), (⟨"TermMachine$Work", "makeValue", "(LTermMachine$Program;)V"⟩, 11), (⟨"TermMachine$Work", "stepOperating", "()V"⟩, 11), (⟨"TermMachine$Deed", "fits", "(LTermMachine$Store;)Z"⟩, 7), (⟨"TermMachine$Deed", "workBytes", "(JJ)V"⟩, 7), (⟨"TermMachine$Deed", "give", "(IJ)V"⟩, 7), (⟨"TermMachine$Deed", "giveTruth", "(Z)V"⟩, 7), (⟨"TermMachine$Deed", "workNumbers", "(JJ)V"⟩, 7)]
theorem lw_r1 : ∀ q ∈ lw_privs_1, lw_okq q := List.forall_mem_cons.mpr ⟨lw_p0, List.forall_mem_cons.mpr ⟨lw_p1, List.forall_mem_cons.mpr ⟨lw_p2, List.forall_mem_cons.mpr ⟨lw_p3, List.forall_mem_cons.mpr ⟨lw_p4, List.forall_mem_cons.mpr ⟨lw_p5, List.forall_mem_cons.mpr ⟨lw_p6, List.forall_mem_cons.mpr ⟨lw_p7, List.forall_mem_cons.mpr ⟨lw_p8, List.forall_mem_cons.mpr ⟨lw_p9, List.forall_mem_cons.mpr ⟨lw_p10, List.forall_mem_cons.mpr ⟨lw_p11, List.forall_mem_cons.mpr ⟨lw_p12, List.forall_mem_cons.mpr ⟨lw_p13, List.forall_mem_cons.mpr ⟨lw_p14, List.forall_mem_cons.mpr ⟨lw_p15, fun _ h => absurd h List.not_mem_nil⟩⟩⟩⟩⟩⟩⟩⟩⟩⟩⟩⟩⟩⟩⟩⟩
theorem lw_p16 : lw_okq (⟨"TermMachine$Deed", "giveNumber", "(J)V"⟩, 7) := ⟨⟨by decide +kernel, by decide +kernel⟩, List.mem_of_getElem? (i := 116) (by decide +kernel), List.mem_of_getElem? (i := 611) (by decide +kernel), List.mem_of_getElem? (i := 612) (by decide +kernel)⟩
theorem lw_p17 : lw_okq (⟨"TermMachine$Work", "stepReturning", "()V"⟩, 11) := ⟨⟨by decide +kernel, by decide +kernel⟩, List.mem_of_getElem? (i := 49) (by decide +kernel), List.mem_of_getElem? (i := 630) (by decide +kernel), List.mem_of_getElem? (i := 631) (by decide +kernel)⟩
theorem lw_p18 : lw_okq (⟨"TermMachine$Work", "forceValue", "()V"⟩, 11) := ⟨⟨by decide +kernel, by decide +kernel⟩, List.mem_of_getElem? (i := 49) (by decide +kernel), List.mem_of_getElem? (i := 634) (by decide +kernel), List.mem_of_getElem? (i := 635) (by decide +kernel)⟩
theorem lw_p19 : lw_okq (⟨"TermMachine$Work", "growPartial", "(II)V"⟩, 11) := ⟨⟨by decide +kernel, by decide +kernel⟩, List.mem_of_getElem? (i := 49) (by decide +kernel), List.mem_of_getElem? (i := 642) (by decide +kernel), List.mem_of_getElem? (i := 643) (by decide +kernel)⟩
theorem lw_p20 : lw_okq (⟨"TermMachine$Work", "endUnfit", "()V"⟩, 11) := ⟨⟨by decide +kernel, by decide +kernel⟩, List.mem_of_getElem? (i := 49) (by decide +kernel), List.mem_of_getElem? (i := 646) (by decide +kernel), List.mem_of_getElem? (i := 647) (by decide +kernel)⟩
theorem lw_p21 : lw_okq (⟨"TermMachine$Work", "turnToArgument", "()V"⟩, 11) := ⟨⟨by decide +kernel, by decide +kernel⟩, List.mem_of_getElem? (i := 49) (by decide +kernel), List.mem_of_getElem? (i := 650) (by decide +kernel), List.mem_of_getElem? (i := 651) (by decide +kernel)⟩
theorem lw_p22 : lw_okq (⟨"TermMachine$Work", "applyFunction", "(I)V"⟩, 11) := ⟨⟨by decide +kernel, by decide +kernel⟩, List.mem_of_getElem? (i := 49) (by decide +kernel), List.mem_of_getElem? (i := 658) (by decide +kernel), List.mem_of_getElem? (i := 659) (by decide +kernel)⟩
theorem lw_p23 : lw_okq (⟨"TermMachine$Work", "enterFunction", "(I)V"⟩, 11) := ⟨⟨by decide +kernel, by decide +kernel⟩, List.mem_of_getElem? (i := 49) (by decide +kernel), List.mem_of_getElem? (i := 662) (by decide +kernel), List.mem_of_getElem? (i := 663) (by decide +kernel)⟩
theorem lw_p24 : lw_okq (⟨"TermMachine$Teller", "putOff", "(III)V"⟩, 6) := ⟨⟨by decide +kernel, by decide +kernel⟩, List.mem_of_getElem? (i := 148) (by decide +kernel), List.mem_of_getElem? (i := 671) (by decide +kernel), List.mem_of_getElem? (i := 672) (by decide +kernel)⟩
theorem lw_p25 : lw_okq (⟨"TermMachine$Teller", "tellValue", "(LTermMachine$Store;I)V"⟩, 6) := ⟨⟨by decide +kernel, by decide +kernel⟩, List.mem_of_getElem? (i := 148) (by decide +kernel), List.mem_of_getElem? (i := 675) (by decide +kernel), List.mem_of_getElem? (i := 676) (by decide +kernel)⟩
theorem lw_p26 : lw_okq (⟨"TermMachine$Teller", "add", "(I)V"⟩, 6) := ⟨⟨by decide +kernel, by decide +kernel⟩, List.mem_of_getElem? (i := 148) (by decide +kernel), List.mem_of_getElem? (i := 679) (by decide +kernel), List.mem_of_getElem? (i := 680) (by decide +kernel)⟩
theorem lw_p27 : lw_okq (⟨"TermMachine$Teller", "tellPartial", "(LTermMachine$Store;I)V"⟩, 6) := ⟨⟨by decide +kernel, by decide +kernel⟩, List.mem_of_getElem? (i := 148) (by decide +kernel), List.mem_of_getElem? (i := 683) (by decide +kernel), List.mem_of_getElem? (i := 684) (by decide +kernel)⟩
theorem lw_p28 : lw_okq (⟨"TermMachine$Teller", "tellConstant", "(IJ)V"⟩, 6) := ⟨⟨by decide +kernel, by decide +kernel⟩, List.mem_of_getElem? (i := 148) (by decide +kernel), List.mem_of_getElem? (i := 693) (by decide +kernel), List.mem_of_getElem? (i := 694) (by decide +kernel)⟩
theorem lw_p29 : lw_okq (⟨"TermMachine$Teller", "tellTerm", "(LTermMachine$Program;LTermMachine$Store;I)V"⟩, 6) := ⟨⟨by decide +kernel, by decide +kernel⟩, List.mem_of_getElem? (i := 148) (by decide +kernel), List.mem_of_getElem? (i := 699) (by decide +kernel), List.mem_of_getElem? (i := 700) (by decide +kernel)⟩
theorem lw_p30 : lw_okq (⟨"TermMachine$Teller", "tellVariable", "(LTermMachine$Store;III)V"⟩, 6) := ⟨⟨by decide +kernel, by decide +kernel⟩, List.mem_of_getElem? (i := 148) (by decide +kernel), List.mem_of_getElem? (i := 703) (by decide +kernel), List.mem_of_getElem? (i := 704) (by decide +kernel)⟩
theorem lw_p31 : lw_okq (⟨"TermMachineModel", "readText", "()V"⟩, 47) := ⟨⟨by decide +kernel, by decide +kernel⟩, List.mem_of_getElem? (i := 708) (by decide +kernel), List.mem_of_getElem? (i := 868) (by decide +kernel), List.mem_of_getElem? (i := 869) (by decide +kernel)⟩
def lw_privs_2 : List (MethodName × Nat) := [(⟨"TermMachine$Deed", "giveNumber", "(J)V"⟩, 7), (⟨"TermMachine$Work", "stepReturning", "()V"⟩, 11), (⟨"TermMachine$Work", "forceValue", "()V"⟩, 11), (⟨"TermMachine$Work", "growPartial", "(II)V"⟩, 11), (⟨"TermMachine$Work", "endUnfit", "()V"⟩, 11), (⟨"TermMachine$Work", "turnToArgument", "()V"⟩, 11), (⟨"TermMachine$Work", "applyFunction", "(I)V"⟩, 11), (⟨"TermMachine$Work", "enterFunction", "(I)V"⟩, 11), (⟨"TermMachine$Teller", "putOff", "(III)V"⟩, 6), (⟨"TermMachine$Teller", "tellValue", "(LTermMachine$Store;I)V"⟩, 6), (⟨"TermMachine$Teller", "add", "(I)V"⟩, 6), (⟨"TermMachine$Teller", "tellPartial", "(LTermMachine$Store;I)V"⟩, 6), (⟨"TermMachine$Teller", "tellConstant", "(IJ)V"⟩, 6), (⟨"TermMachine$Teller", "tellTerm", "(LTermMachine$Program;LTermMachine$Store;I)V"⟩, 6), (⟨"TermMachine$Teller", "tellVariable", "(LTermMachine$Store;III)V"⟩, 6), (⟨"TermMachineModel", "readText", "()V"⟩, 47)]
theorem lw_r2 : ∀ q ∈ lw_privs_2, lw_okq q := List.forall_mem_cons.mpr ⟨lw_p16, List.forall_mem_cons.mpr ⟨lw_p17, List.forall_mem_cons.mpr ⟨lw_p18, List.forall_mem_cons.mpr ⟨lw_p19, List.forall_mem_cons.mpr ⟨lw_p20, List.forall_mem_cons.mpr ⟨lw_p21, List.forall_mem_cons.mpr ⟨lw_p22, List.forall_mem_cons.mpr ⟨lw_p23, List.forall_mem_cons.mpr ⟨lw_p24, List.forall_mem_cons.mpr ⟨lw_p25, List.forall_mem_cons.mpr ⟨lw_p26, List.forall_mem_cons.mpr ⟨lw_p27, List.forall_mem_cons.mpr ⟨lw_p28, List.forall_mem_cons.mpr ⟨lw_p29, List.forall_mem_cons.mpr ⟨lw_p30, List.forall_mem_cons.mpr ⟨lw_p31, fun _ h => absurd h List.not_mem_nil⟩⟩⟩⟩⟩⟩⟩⟩⟩⟩⟩⟩⟩⟩⟩⟩
theorem lw_p32 : lw_okq (⟨"TermMachineModel", "natural", "()I"⟩, 47) := ⟨⟨by decide +kernel, by decide +kernel⟩, List.mem_of_getElem? (i := 708) (by decide +kernel), List.mem_of_getElem? (i := 872) (by decide +kernel), List.mem_of_getElem? (i := 873) (by decide +kernel)⟩
theorem lw_p33 : lw_okq (⟨"TermMachineModel", "bit", "()I"⟩, 47) := ⟨⟨by decide +kernel, by decide +kernel⟩, List.mem_of_getElem? (i := 708) (by decide +kernel), List.mem_of_getElem? (i := 876) (by decide +kernel), List.mem_of_getElem? (i := 877) (by decide +kernel)⟩
theorem lw_p34 : lw_okq (⟨"TermMachineModel", "wrong", "(I)V"⟩, 47) := ⟨⟨by decide +kernel, by decide +kernel⟩, List.mem_of_getElem? (i := 708) (by decide +kernel), List.mem_of_getElem? (i := 880) (by decide +kernel), List.mem_of_getElem? (i := 881) (by decide +kernel)⟩
theorem lw_p35 : lw_okq (⟨"TermMachineModel", "bits", "(I)I"⟩, 47) := ⟨⟨by decide +kernel, by decide +kernel⟩, List.mem_of_getElem? (i := 708) (by decide +kernel), List.mem_of_getElem? (i := 884) (by decide +kernel), List.mem_of_getElem? (i := 885) (by decide +kernel)⟩
theorem lw_p36 : lw_okq (⟨"TermMachineModel", "readTerm", "(III)V"⟩, 47) := ⟨⟨by decide +kernel, by decide +kernel⟩, List.mem_of_getElem? (i := 708) (by decide +kernel), List.mem_of_getElem? (i := 889) (by decide +kernel), List.mem_of_getElem? (i := 890) (by decide +kernel)⟩
theorem lw_p37 : lw_okq (⟨"TermMachineModel", "constant", "(I)V"⟩, 47) := ⟨⟨by decide +kernel, by decide +kernel⟩, List.mem_of_getElem? (i := 708) (by decide +kernel), List.mem_of_getElem? (i := 893) (by decide +kernel), List.mem_of_getElem? (i := 894) (by decide +kernel)⟩
theorem lw_p38 : lw_okq (⟨"TermMachineModel", "nothing", "()V"⟩, 47) := ⟨⟨by decide +kernel, by decide +kernel⟩, List.mem_of_getElem? (i := 708) (by decide +kernel), List.mem_of_getElem? (i := 897) (by decide +kernel), List.mem_of_getElem? (i := 898) (by decide +kernel)⟩
theorem lw_p39 : lw_okq (⟨"TermMachineModel", "step", "()V"⟩, 47) := ⟨⟨by decide +kernel, by decide +kernel⟩, List.mem_of_getElem? (i := 708) (by decide +kernel), List.mem_of_getElem? (i := 910) (by decide +kernel), List.mem_of_getElem? (i := 911) (by decide +kernel)⟩
theorem lw_p40 : lw_okq (⟨"TermMachineModel", "cost", "()I"⟩, 47) := ⟨⟨by decide +kernel, by decide +kernel⟩, List.mem_of_getElem? (i := 708) (by decide +kernel), List.mem_of_getElem? (i := 914) (by decide +kernel), List.mem_of_getElem? (i := 915) (by decide +kernel)⟩
theorem lw_p41 : lw_okq (⟨"TermMachineModel", "wantsArgument", "(I)Z"⟩, 47) := ⟨⟨by decide +kernel, by decide +kernel⟩, List.mem_of_getElem? (i := 708) (by decide +kernel), List.mem_of_getElem? (i := 918) (by decide +kernel), List.mem_of_getElem? (i := 919) (by decide +kernel)⟩
theorem lw_p42 : lw_okq (⟨"TermMachineModel", "wantsForce", "(I)Z"⟩, 47) := ⟨⟨by decide +kernel, by decide +kernel⟩, List.mem_of_getElem? (i := 708) (by decide +kernel), List.mem_of_getElem? (i := 922) (by decide +kernel), List.mem_of_getElem? (i := 923) (by decide +kernel)⟩
theorem lw_p43 : lw_okq (⟨"TermMachineModel", "price", "(II)I"⟩, 47) := ⟨⟨by decide +kernel, by decide +kernel⟩, List.mem_of_getElem? (i := 708) (by decide +kernel), List.mem_of_getElem? (i := 932) (by decide +kernel), List.mem_of_getElem? (i := 933) (by decide +kernel)⟩
theorem lw_p44 : lw_okq (⟨"TermMachineModel", "argument", "(III)I"⟩, 47) := ⟨⟨by decide +kernel, by decide +kernel⟩, List.mem_of_getElem? (i := 708) (by decide +kernel), List.mem_of_getElem? (i := 936) (by decide +kernel), List.mem_of_getElem? (i := 937) (by decide +kernel)⟩
theorem lw_p45 : lw_okq (⟨"TermMachineModel", "end", "(I)V"⟩, 47) := ⟨⟨by decide +kernel, by decide +kernel⟩, List.mem_of_getElem? (i := 708) (by decide +kernel), List.mem_of_getElem? (i := 940) (by decide +kernel), List.mem_of_getElem? (i := 941) (by decide +kernel)⟩
theorem lw_p46 : lw_okq (⟨"TermMachineModel", "compute", "()V"⟩, 47) := ⟨⟨by decide +kernel, by decide +kernel⟩, List.mem_of_getElem? (i := 708) (by decide +kernel), List.mem_of_getElem? (i := 944) (by decide +kernel), List.mem_of_getElem? (i := 945) (by decide +kernel)⟩
theorem lw_p47 : lw_okq (⟨"TermMachineModel", "variable", "(I)I"⟩, 47) := ⟨⟨by decide +kernel, by decide +kernel⟩, List.mem_of_getElem? (i := 708) (by decide +kernel), List.mem_of_getElem? (i := 948) (by decide +kernel), List.mem_of_getElem? (i := 949) (by decide +kernel)⟩
def lw_privs_3 : List (MethodName × Nat) := [(⟨"TermMachineModel", "natural", "()I"⟩, 47), (⟨"TermMachineModel", "bit", "()I"⟩, 47), (⟨"TermMachineModel", "wrong", "(I)V"⟩, 47), (⟨"TermMachineModel", "bits", "(I)I"⟩, 47), (⟨"TermMachineModel", "readTerm", "(III)V"⟩, 47), (⟨"TermMachineModel", "constant", "(I)V"⟩, 47), (⟨"TermMachineModel", "nothing", "()V"⟩, 47), (⟨"TermMachineModel", "step", "()V"⟩, 47), (⟨"TermMachineModel", "cost", "()I"⟩, 47), (⟨"TermMachineModel", "wantsArgument", "(I)Z"⟩, 47), (⟨"TermMachineModel", "wantsForce", "(I)Z"⟩, 47), (⟨"TermMachineModel", "price", "(II)I"⟩, 47), (⟨"TermMachineModel", "argument", "(III)I"⟩, 47), (⟨"TermMachineModel", "end", "(I)V"⟩, 47), (⟨"TermMachineModel", "compute", "()V"⟩, 47), (⟨"TermMachineModel", "variable", "(I)I"⟩, 47)]
theorem lw_r3 : ∀ q ∈ lw_privs_3, lw_okq q := List.forall_mem_cons.mpr ⟨lw_p32, List.forall_mem_cons.mpr ⟨lw_p33, List.forall_mem_cons.mpr ⟨lw_p34, List.forall_mem_cons.mpr ⟨lw_p35, List.forall_mem_cons.mpr ⟨lw_p36, List.forall_mem_cons.mpr ⟨lw_p37, List.forall_mem_cons.mpr ⟨lw_p38, List.forall_mem_cons.mpr ⟨lw_p39, List.forall_mem_cons.mpr ⟨lw_p40, List.forall_mem_cons.mpr ⟨lw_p41, List.forall_mem_cons.mpr ⟨lw_p42, List.forall_mem_cons.mpr ⟨lw_p43, List.forall_mem_cons.mpr ⟨lw_p44, List.forall_mem_cons.mpr ⟨lw_p45, List.forall_mem_cons.mpr ⟨lw_p46, List.forall_mem_cons.mpr ⟨lw_p47, fun _ h => absurd h List.not_mem_nil⟩⟩⟩⟩⟩⟩⟩⟩⟩⟩⟩⟩⟩⟩⟩⟩
theorem lw_p48 : lw_okq (⟨"TermMachineModel", "returns", "(I)V"⟩, 47) := ⟨⟨by decide +kernel, by decide +kernel⟩, List.mem_of_getElem? (i := 708) (by decide +kernel), List.mem_of_getElem? (i := 952) (by decide +kernel), List.mem_of_getElem? (i := 953) (by decide +kernel)⟩
theorem lw_p49 : lw_okq (⟨"TermMachineModel", "newValue", "(IIII)I"⟩, 47) := ⟨⟨by decide +kernel, by decide +kernel⟩, List.mem_of_getElem? (i := 708) (by decide +kernel), List.mem_of_getElem? (i := 956) (by decide +kernel), List.mem_of_getElem? (i := 957) (by decide +kernel)⟩
theorem lw_p50 : lw_okq (⟨"TermMachineModel", "newBytes", "(IJ)I"⟩, 47) := ⟨⟨by decide +kernel, by decide +kernel⟩, List.mem_of_getElem? (i := 708) (by decide +kernel), List.mem_of_getElem? (i := 960) (by decide +kernel), List.mem_of_getElem? (i := 961) (by decide +kernel)⟩
theorem lw_p51 : lw_okq (⟨"TermMachineModel", "pile", "(III)V"⟩, 47) := ⟨⟨by decide +kernel, by decide +kernel⟩, List.mem_of_getElem? (i := 708) (by decide +kernel), List.mem_of_getElem? (i := 964) (by decide +kernel), List.mem_of_getElem? (i := 965) (by decide +kernel)⟩
theorem lw_p52 : lw_okq (⟨"TermMachineModel", "computes", "(II)V"⟩, 47) := ⟨⟨by decide +kernel, by decide +kernel⟩, List.mem_of_getElem? (i := 708) (by decide +kernel), List.mem_of_getElem? (i := 968) (by decide +kernel), List.mem_of_getElem? (i := 969) (by decide +kernel)⟩
theorem lw_p53 : lw_okq (⟨"TermMachineModel", "back", "()V"⟩, 47) := ⟨⟨by decide +kernel, by decide +kernel⟩, List.mem_of_getElem? (i := 708) (by decide +kernel), List.mem_of_getElem? (i := 972) (by decide +kernel), List.mem_of_getElem? (i := 973) (by decide +kernel)⟩
theorem lw_p54 : lw_okq (⟨"TermMachineModel", "tell", "(I)V"⟩, 47) := ⟨⟨by decide +kernel, by decide +kernel⟩, List.mem_of_getElem? (i := 708) (by decide +kernel), List.mem_of_getElem? (i := 976) (by decide +kernel), List.mem_of_getElem? (i := 977) (by decide +kernel)⟩
theorem lw_p55 : lw_okq (⟨"TermMachineModel", "ask", "(IIII)V"⟩, 47) := ⟨⟨by decide +kernel, by decide +kernel⟩, List.mem_of_getElem? (i := 708) (by decide +kernel), List.mem_of_getElem? (i := 980) (by decide +kernel), List.mem_of_getElem? (i := 981) (by decide +kernel)⟩
theorem lw_p56 : lw_okq (⟨"TermMachineModel", "sayValue", "(I)V"⟩, 47) := ⟨⟨by decide +kernel, by decide +kernel⟩, List.mem_of_getElem? (i := 708) (by decide +kernel), List.mem_of_getElem? (i := 984) (by decide +kernel), List.mem_of_getElem? (i := 985) (by decide +kernel)⟩
theorem lw_p57 : lw_okq (⟨"TermMachineModel", "sayConstant", "(IIJ)V"⟩, 47) := ⟨⟨by decide +kernel, by decide +kernel⟩, List.mem_of_getElem? (i := 708) (by decide +kernel), List.mem_of_getElem? (i := 988) (by decide +kernel), List.mem_of_getElem? (i := 989) (by decide +kernel)⟩
theorem lw_p58 : lw_okq (⟨"TermMachineModel", "say", "(I)V"⟩, 47) := ⟨⟨by decide +kernel, by decide +kernel⟩, List.mem_of_getElem? (i := 708) (by decide +kernel), List.mem_of_getElem? (i := 992) (by decide +kernel), List.mem_of_getElem? (i := 993) (by decide +kernel)⟩
theorem lw_p59 : lw_okq (⟨"TermMachineModel", "sayTerm", "(III)V"⟩, 47) := ⟨⟨by decide +kernel, by decide +kernel⟩, List.mem_of_getElem? (i := 708) (by decide +kernel), List.mem_of_getElem? (i := 997) (by decide +kernel), List.mem_of_getElem? (i := 998) (by decide +kernel)⟩
theorem lw_p60 : lw_okq (⟨"TermMachineModel", "forces", "(I)V"⟩, 47) := ⟨⟨by decide +kernel, by decide +kernel⟩, List.mem_of_getElem? (i := 708) (by decide +kernel), List.mem_of_getElem? (i := 1001) (by decide +kernel), List.mem_of_getElem? (i := 1002) (by decide +kernel)⟩
theorem lw_p61 : lw_okq (⟨"TermMachineModel", "more", "(II)I"⟩, 47) := ⟨⟨by decide +kernel, by decide +kernel⟩, List.mem_of_getElem? (i := 708) (by decide +kernel), List.mem_of_getElem? (i := 1005) (by decide +kernel), List.mem_of_getElem? (i := 1006) (by decide +kernel)⟩
theorem lw_p62 : lw_okq (⟨"TermMachineModel", "applies", "(II)V"⟩, 47) := ⟨⟨by decide +kernel, by decide +kernel⟩, List.mem_of_getElem? (i := 708) (by decide +kernel), List.mem_of_getElem? (i := 1009) (by decide +kernel), List.mem_of_getElem? (i := 1010) (by decide +kernel)⟩
theorem lw_p63 : lw_okq (⟨"TermMachineModel", "gives", "(II)Z"⟩, 47) := ⟨⟨by decide +kernel, by decide +kernel⟩, List.mem_of_getElem? (i := 708) (by decide +kernel), List.mem_of_getElem? (i := 1013) (by decide +kernel), List.mem_of_getElem? (i := 1014) (by decide +kernel)⟩
def lw_privs_4 : List (MethodName × Nat) := [(⟨"TermMachineModel", "returns", "(I)V"⟩, 47), (⟨"TermMachineModel", "newValue", "(IIII)I"⟩, 47), (⟨"TermMachineModel", "newBytes", "(IJ)I"⟩, 47), (⟨"TermMachineModel", "pile", "(III)V"⟩, 47), (⟨"TermMachineModel", "computes", "(II)V"⟩, 47), (⟨"TermMachineModel", "back", "()V"⟩, 47), (⟨"TermMachineModel", "tell", "(I)V"⟩, 47), (⟨"TermMachineModel", "ask", "(IIII)V"⟩, 47), (⟨"TermMachineModel", "sayValue", "(I)V"⟩, 47), (⟨"TermMachineModel", "sayConstant", "(IIJ)V"⟩, 47), (⟨"TermMachineModel", "say", "(I)V"⟩, 47), (⟨"TermMachineModel", "sayTerm", "(III)V"⟩, 47), (⟨"TermMachineModel", "forces", "(I)V"⟩, 47), (⟨"TermMachineModel", "more", "(II)I"⟩, 47), (⟨"TermMachineModel", "applies", "(II)V"⟩, 47), (⟨"TermMachineModel", "gives", "(II)Z"⟩, 47)]
theorem lw_r4 : ∀ q ∈ lw_privs_4, lw_okq q := List.forall_mem_cons.mpr ⟨lw_p48, List.forall_mem_cons.mpr ⟨lw_p49, List.forall_mem_cons.mpr ⟨lw_p50, List.forall_mem_cons.mpr ⟨lw_p51, List.forall_mem_cons.mpr ⟨lw_p52, List.forall_mem_cons.mpr ⟨lw_p53, List.forall_mem_cons.mpr ⟨lw_p54, List.forall_mem_cons.mpr ⟨lw_p55, List.forall_mem_cons.mpr ⟨lw_p56, List.forall_mem_cons.mpr ⟨lw_p57, List.forall_mem_cons.mpr ⟨lw_p58, List.forall_mem_cons.mpr ⟨lw_p59, List.forall_mem_cons.mpr ⟨lw_p60, List.forall_mem_cons.mpr ⟨lw_p61, List.forall_mem_cons.mpr ⟨lw_p62, List.forall_mem_cons.mpr ⟨lw_p63, fun _ h => absurd h List.not_mem_nil⟩⟩⟩⟩⟩⟩⟩⟩⟩⟩⟩⟩⟩⟩⟩⟩
theorem lw_p64 : lw_okq (⟨"TermMachineModel", "fits", "(II)Z"⟩, 47) := ⟨⟨by decide +kernel, by decide +kernel⟩, List.mem_of_getElem? (i := 708) (by decide +kernel), List.mem_of_getElem? (i := 1017) (by decide +kernel), List.mem_of_getElem? (i := 1018) (by decide +kernel)⟩
theorem lw_p65 : lw_okq (⟨"TermMachineModel", "result", "(II)I"⟩, 47) := ⟨⟨by decide +kernel, by decide +kernel⟩, List.mem_of_getElem? (i := 708) (by decide +kernel), List.mem_of_getElem? (i := 1029) (by decide +kernel), List.mem_of_getElem? (i := 1030) (by decide +kernel)⟩
def lw_privs_5 : List (MethodName × Nat) := [(⟨"TermMachineModel", "fits", "(II)Z"⟩, 47), (⟨"TermMachineModel", "result", "(II)I"⟩, 47)]
theorem lw_r5 : ∀ q ∈ lw_privs_5, lw_okq q := List.forall_mem_cons.mpr ⟨lw_p64, List.forall_mem_cons.mpr ⟨lw_p65, fun _ h => absurd h List.not_mem_nil⟩⟩
def lw_privs : List (MethodName × Nat) := lw_privs_1 ++ (lw_privs_2 ++ (lw_privs_3 ++ (lw_privs_4 ++ (lw_privs_5))))
def lw_tbl : List Cond := k2_sels lw_privs ++ tables_1
theorem lw_privs_ok : ∀ q ∈ lw_privs, lw_okq q := by
  show ∀ q ∈ lw_privs_1 ++ (lw_privs_2 ++ (lw_privs_3 ++ (lw_privs_4 ++ (lw_privs_5)))), lw_okq q
  exact List.forall_mem_append.mpr ⟨lw_r1, List.forall_mem_append.mpr ⟨lw_r2, List.forall_mem_append.mpr ⟨lw_r3, List.forall_mem_append.mpr ⟨lw_r4, lw_r5⟩⟩⟩⟩
def AW : List Cond := lw_tbl.filter goodWord
theorem aw_tb {w : Cond} (h : w ∈ tables_1) (g : goodWord w = true) : w ∈ AW := List.mem_filter.mpr ⟨List.mem_append_right _ h, g⟩
theorem aw_sl {w : Cond} (h : w ∈ k2_sels lw_privs) (g : goodWord w = true) : w ∈ AW := List.mem_filter.mpr ⟨List.mem_append_left _ h, g⟩
theorem aw_tbl {w : Cond} (h : w ∈ AW) : w ∈ lw_tbl := (List.mem_filter.mp h).1
theorem gAW {c c1 : Cond} (h : c1 ∈ AW) : GoodIn (c :: AW) (c1 :: AW) := fun w hw => (List.mem_cons.mp hw).elim (fun e => by rw [e]; exact ⟨List.mem_cons_of_mem _ h, good_of_word (List.mem_filter.mp h).2⟩) (fun h1 => ⟨List.mem_cons_of_mem _ h1, good_of_word (List.mem_filter.mp h1).2⟩)
theorem tb_1 {w : Cond} (h : w ∈ tables_1_1) : w ∈ tables_1 := List.mem_append_left _ h
theorem tb_2 {w : Cond} (h : w ∈ tables_1_2) : w ∈ tables_1 := List.mem_append_right _ (List.mem_append_left _ h)
theorem tb_3 {w : Cond} (h : w ∈ tables_1_3) : w ∈ tables_1 := List.mem_append_right _ (List.mem_append_right _ (List.mem_append_left _ h))
theorem tb_4 {w : Cond} (h : w ∈ tables_1_4) : w ∈ tables_1 := List.mem_append_right _ (List.mem_append_right _ (List.mem_append_right _ (List.mem_append_left _ h)))
theorem tb_5 {w : Cond} (h : w ∈ tables_1_5) : w ∈ tables_1 := List.mem_append_right _ (List.mem_append_right _ (List.mem_append_right _ (List.mem_append_right _ (h))))
theorem aw_0 : (.initialized "TermMachineLaw" : Cond) ∈ AW := aw_tb (tb_1 (List.mem_of_getElem? (i := 0) rfl)) rfl
theorem aw_1 : (.initialized "TermMachine" : Cond) ∈ AW := aw_tb (tb_1 (List.mem_of_getElem? (i := 1) rfl)) rfl
theorem aw_2 : (.initialized "TermMachine$Text" : Cond) ∈ AW := aw_tb (tb_1 (List.mem_of_getElem? (i := 2) rfl)) rfl
theorem aw_3 : (.initialized "TermMachine$Work" : Cond) ∈ AW := aw_tb (tb_1 (List.mem_of_getElem? (i := 3) rfl)) rfl
theorem aw_4 : (.initialized "TermMachine$Store" : Cond) ∈ AW := aw_tb (tb_1 (List.mem_of_getElem? (i := 4) rfl)) rfl
theorem aw_5 : (.initialized "TermMachine$Frames" : Cond) ∈ AW := aw_tb (tb_1 (List.mem_of_getElem? (i := 5) rfl)) rfl
theorem aw_6 : (.initialized "TermMachine$Deed" : Cond) ∈ AW := aw_tb (tb_1 (List.mem_of_getElem? (i := 6) rfl)) rfl
theorem aw_7 : (.initialized "TermMachine$Teller" : Cond) ∈ AW := aw_tb (tb_1 (List.mem_of_getElem? (i := 7) rfl)) rfl
theorem aw_8 : (.initialized "TermMachine$Program" : Cond) ∈ AW := aw_tb (tb_1 (List.mem_of_getElem? (i := 8) rfl)) rfl
theorem aw_9 : (.initialized "TermMachineModel" : Cond) ∈ AW := aw_tb (tb_1 (List.mem_of_getElem? (i := 9) rfl)) rfl
theorem aw_10 : (.initialized "java/lang/Throwable" : Cond) ∈ AW := aw_tb (tb_1 (List.mem_of_getElem? (i := 10) rfl)) rfl
theorem aw_11 : (.initialized "java/lang/Exception" : Cond) ∈ AW := aw_tb (tb_1 (List.mem_of_getElem? (i := 11) rfl)) rfl
theorem aw_12 : (.initialized "java/lang/RuntimeException" : Cond) ∈ AW := aw_tb (tb_1 (List.mem_of_getElem? (i := 12) rfl)) rfl
theorem aw_13 : (.initialized "java/lang/IllegalArgumentException" : Cond) ∈ AW := aw_tb (tb_1 (List.mem_of_getElem? (i := 13) rfl)) rfl
theorem aw_14 : (.initialized "java/lang/IllegalStateException" : Cond) ∈ AW := aw_tb (tb_1 (List.mem_of_getElem? (i := 14) rfl)) rfl
theorem aw_15 : (.initialized "TermMachine$Packed" : Cond) ∈ AW := aw_tb (tb_1 (List.mem_of_getElem? (i := 15) rfl)) rfl
theorem aw_16 : (.initialized "java/lang/Math" : Cond) ∈ AW := aw_tb (tb_1 (List.mem_of_getElem? (i := 16) rfl)) rfl
theorem aw_17 : (.classLink "TermMachineLaw" 8 "TermMachine" : Cond) ∈ AW := aw_tb (tb_1 (List.mem_of_getElem? (i := 17) rfl)) rfl
theorem aw_18 : (.instantiable "TermMachine" 4 : Cond) ∈ AW := aw_tb (tb_1 (List.mem_of_getElem? (i := 18) rfl)) rfl
theorem aw_19 : (.methodLink "TermMachineLaw" 25 ⟨"TermMachine", "<init>", "()V"⟩ : Cond) ∈ AW := aw_tb (tb_1 (List.mem_of_getElem? (i := 19) rfl)) rfl
theorem aw_20 : (.instanceMethod ⟨"TermMachine", "<init>", "()V"⟩ : Cond) ∈ AW := aw_tb (tb_1 (List.mem_of_getElem? (i := 20) rfl)) rfl
theorem aw_21 : (.code ⟨"TermMachine", "<init>", "()V"⟩ prog_1_method_1_code 1 none : Cond) ∈ AW := aw_tb (tb_1 (List.mem_of_getElem? (i := 21) rfl)) rfl
theorem aw_22 : (.methodLink "TermMachine" 1 ⟨"java/lang/Object", "<init>", "()V"⟩ : Cond) ∈ AW := aw_tb (tb_1 (List.mem_of_getElem? (i := 22) rfl)) rfl
theorem aw_23 : (.instanceMethod ⟨"java/lang/Object", "<init>", "()V"⟩ : Cond) ∈ AW := aw_tb (tb_1 (List.mem_of_getElem? (i := 23) rfl)) rfl
theorem aw_24 : (.code ⟨"java/lang/Object", "<init>", "()V"⟩ object_method_1_code 1 none : Cond) ∈ AW := aw_tb (tb_1 (List.mem_of_getElem? (i := 24) rfl)) rfl
theorem aw_25 : (.classLink "TermMachine" 7 "TermMachine$Text" : Cond) ∈ AW := aw_tb (tb_1 (List.mem_of_getElem? (i := 25) rfl)) rfl
theorem aw_26 : (.instantiable "TermMachine$Text" 4 : Cond) ∈ AW := aw_tb (tb_1 (List.mem_of_getElem? (i := 26) rfl)) rfl
theorem tw_27 : (.methodLinkNest "TermMachine" 9 ⟨"TermMachine$Text", "<init>", "()V"⟩ "TermMachine" : Cond) ∈ lw_tbl := List.mem_append_right _ (tb_1 (List.mem_of_getElem? (i := 27) rfl))
theorem aw_28 : (.instanceMethod ⟨"TermMachine$Text", "<init>", "()V"⟩ : Cond) ∈ AW := aw_tb (tb_1 (List.mem_of_getElem? (i := 28) rfl)) rfl
theorem aw_29 : (.code ⟨"TermMachine$Text", "<init>", "()V"⟩ prog_8_method_1_code 1 none : Cond) ∈ AW := aw_tb (tb_1 (List.mem_of_getElem? (i := 29) rfl)) rfl
theorem aw_30 : (.methodLink "TermMachine$Text" 3 ⟨"java/lang/Object", "<init>", "()V"⟩ : Cond) ∈ AW := aw_tb (tb_1 (List.mem_of_getElem? (i := 30) rfl)) rfl
theorem aw_31 : (.fieldLink "TermMachine$Text" 9 "TermMachine$Text" "bytes" "[I" : Cond) ∈ AW := aw_tb (tb_1 (List.mem_of_getElem? (i := 31) rfl)) rfl
theorem aw_32 : (.fieldLink "TermMachine$Text" 15 "TermMachine$Text" "length" "I" : Cond) ∈ AW := aw_tb (tb_1 (List.mem_of_getElem? (i := 32) rfl)) rfl
theorem tw_33 : (.fieldLinkNest "TermMachine" 40 "TermMachine$Text" "length" "I" "TermMachine" : Cond) ∈ lw_tbl := List.mem_append_right _ (tb_1 (List.mem_of_getElem? (i := 33) rfl))
theorem aw_34 : (.fieldLink "TermMachine$Text" 19 "TermMachine$Text" "place" "I" : Cond) ∈ AW := aw_tb (tb_1 (List.mem_of_getElem? (i := 34) rfl)) rfl
theorem aw_35 : (.fieldLink "TermMachine$Text" 22 "TermMachine$Text" "wrong" "I" : Cond) ∈ AW := aw_tb (tb_1 (List.mem_of_getElem? (i := 35) rfl)) rfl
theorem tw_36 : (.fieldLinkNest "TermMachine" 57 "TermMachine$Text" "wrong" "I" "TermMachine" : Cond) ∈ lw_tbl := List.mem_append_right _ (tb_1 (List.mem_of_getElem? (i := 36) rfl))
theorem tw_37 : (.fieldLinkNest "TermMachine$Program" 52 "TermMachine$Text" "wrong" "I" "TermMachine" : Cond) ∈ lw_tbl := List.mem_append_right _ (tb_1 (List.mem_of_getElem? (i := 37) rfl))
theorem aw_38 : (.laysFinal "TermMachine$Text" "TermMachine$Text" "bytes" "[I" : Cond) ∈ AW := aw_tb (tb_1 (List.mem_of_getElem? (i := 38) rfl)) rfl
theorem aw_40 : (.lays "TermMachine$Text" "TermMachine$Text" "length" "I" : Cond) ∈ AW := aw_tb (tb_1 (List.mem_of_getElem? (i := 40) rfl)) rfl
theorem aw_42 : (.lays "TermMachine$Text" "TermMachine$Text" "place" "I" : Cond) ∈ AW := aw_tb (tb_1 (List.mem_of_getElem? (i := 42) rfl)) rfl
theorem aw_44 : (.lays "TermMachine$Text" "TermMachine$Text" "wrong" "I" : Cond) ∈ AW := aw_tb (tb_1 (List.mem_of_getElem? (i := 44) rfl)) rfl
theorem aw_47 : (.arrayClass .int : Cond) ∈ AW := aw_tb (tb_1 (List.mem_of_getElem? (i := 47) rfl)) rfl
theorem aw_48 : (.classLink "TermMachine" 16 "TermMachine$Work" : Cond) ∈ AW := aw_tb (tb_1 (List.mem_of_getElem? (i := 48) rfl)) rfl
theorem aw_49 : (.instantiable "TermMachine$Work" 11 : Cond) ∈ AW := aw_tb (tb_1 (List.mem_of_getElem? (i := 49) rfl)) rfl
theorem tw_50 : (.methodLinkNest "TermMachine" 18 ⟨"TermMachine$Work", "<init>", "()V"⟩ "TermMachine" : Cond) ∈ lw_tbl := List.mem_append_right _ (tb_1 (List.mem_of_getElem? (i := 50) rfl))
theorem aw_51 : (.instanceMethod ⟨"TermMachine$Work", "<init>", "()V"⟩ : Cond) ∈ AW := aw_tb (tb_1 (List.mem_of_getElem? (i := 51) rfl)) rfl
theorem aw_52 : (.code ⟨"TermMachine$Work", "<init>", "()V"⟩ prog_9_method_1_code 1 none : Cond) ∈ AW := aw_tb (tb_1 (List.mem_of_getElem? (i := 52) rfl)) rfl
theorem aw_53 : (.methodLink "TermMachine$Work" 3 ⟨"java/lang/Object", "<init>", "()V"⟩ : Cond) ∈ AW := aw_tb (tb_1 (List.mem_of_getElem? (i := 53) rfl)) rfl
theorem aw_54 : (.classLink "TermMachine$Work" 9 "TermMachine$Store" : Cond) ∈ AW := aw_tb (tb_1 (List.mem_of_getElem? (i := 54) rfl)) rfl
theorem aw_55 : (.instantiable "TermMachine$Store" 6 : Cond) ∈ AW := aw_tb (tb_1 (List.mem_of_getElem? (i := 55) rfl)) rfl
theorem tw_56 : (.methodLinkNest "TermMachine$Work" 11 ⟨"TermMachine$Store", "<init>", "()V"⟩ "TermMachine" : Cond) ∈ lw_tbl := List.mem_append_right _ (tb_1 (List.mem_of_getElem? (i := 56) rfl))
theorem aw_57 : (.instanceMethod ⟨"TermMachine$Store", "<init>", "()V"⟩ : Cond) ∈ AW := aw_tb (tb_1 (List.mem_of_getElem? (i := 57) rfl)) rfl
theorem aw_58 : (.code ⟨"TermMachine$Store", "<init>", "()V"⟩ prog_6_method_1_code 1 none : Cond) ∈ AW := aw_tb (tb_1 (List.mem_of_getElem? (i := 58) rfl)) rfl
theorem aw_59 : (.methodLink "TermMachine$Store" 3 ⟨"java/lang/Object", "<init>", "()V"⟩ : Cond) ∈ AW := aw_tb (tb_1 (List.mem_of_getElem? (i := 59) rfl)) rfl
theorem aw_60 : (.fieldLink "TermMachine$Store" 9 "TermMachine$Store" "kind" "[I" : Cond) ∈ AW := aw_tb (tb_1 (List.mem_of_getElem? (i := 60) rfl)) rfl
theorem tw_61 : (.fieldLinkNest "TermMachine$Deed" 58 "TermMachine$Store" "kind" "[I" "TermMachine" : Cond) ∈ lw_tbl := List.mem_append_right _ (tb_1 (List.mem_of_getElem? (i := 61) rfl))
theorem tw_62 : (.fieldLinkNest "TermMachine$Teller" 47 "TermMachine$Store" "kind" "[I" "TermMachine" : Cond) ∈ lw_tbl := List.mem_append_right _ (tb_1 (List.mem_of_getElem? (i := 62) rfl))
theorem tw_63 : (.fieldLinkNest "TermMachine$Work" 173 "TermMachine$Store" "kind" "[I" "TermMachine" : Cond) ∈ lw_tbl := List.mem_append_right _ (tb_1 (List.mem_of_getElem? (i := 63) rfl))
theorem aw_64 : (.fieldLink "TermMachine$Store" 15 "TermMachine$Store" "content" "[J" : Cond) ∈ AW := aw_tb (tb_1 (List.mem_of_getElem? (i := 64) rfl)) rfl
theorem tw_65 : (.fieldLinkNest "TermMachine$Deed" 60 "TermMachine$Store" "content" "[J" "TermMachine" : Cond) ∈ lw_tbl := List.mem_append_right _ (tb_1 (List.mem_of_getElem? (i := 65) rfl))
theorem tw_66 : (.fieldLinkNest "TermMachine$Teller" 65 "TermMachine$Store" "content" "[J" "TermMachine" : Cond) ∈ lw_tbl := List.mem_append_right _ (tb_1 (List.mem_of_getElem? (i := 66) rfl))
theorem aw_67 : (.fieldLink "TermMachine$Store" 19 "TermMachine$Store" "left" "[I" : Cond) ∈ AW := aw_tb (tb_1 (List.mem_of_getElem? (i := 67) rfl)) rfl
theorem tw_68 : (.fieldLinkNest "TermMachine$Deed" 49 "TermMachine$Store" "left" "[I" "TermMachine" : Cond) ∈ lw_tbl := List.mem_append_right _ (tb_1 (List.mem_of_getElem? (i := 68) rfl))
theorem tw_69 : (.fieldLinkNest "TermMachine$Teller" 56 "TermMachine$Store" "left" "[I" "TermMachine" : Cond) ∈ lw_tbl := List.mem_append_right _ (tb_1 (List.mem_of_getElem? (i := 69) rfl))
theorem tw_70 : (.fieldLinkNest "TermMachine$Work" 177 "TermMachine$Store" "left" "[I" "TermMachine" : Cond) ∈ lw_tbl := List.mem_append_right _ (tb_1 (List.mem_of_getElem? (i := 70) rfl))
theorem aw_71 : (.fieldLink "TermMachine$Store" 22 "TermMachine$Store" "right" "[I" : Cond) ∈ AW := aw_tb (tb_1 (List.mem_of_getElem? (i := 71) rfl)) rfl
theorem tw_72 : (.fieldLinkNest "TermMachine$Deed" 52 "TermMachine$Store" "right" "[I" "TermMachine" : Cond) ∈ lw_tbl := List.mem_append_right _ (tb_1 (List.mem_of_getElem? (i := 72) rfl))
theorem tw_73 : (.fieldLinkNest "TermMachine$Teller" 59 "TermMachine$Store" "right" "[I" "TermMachine" : Cond) ∈ lw_tbl := List.mem_append_right _ (tb_1 (List.mem_of_getElem? (i := 73) rfl))
theorem tw_74 : (.fieldLinkNest "TermMachine$Work" 180 "TermMachine$Store" "right" "[I" "TermMachine" : Cond) ∈ lw_tbl := List.mem_append_right _ (tb_1 (List.mem_of_getElem? (i := 74) rfl))
theorem aw_75 : (.fieldLink "TermMachine$Store" 25 "TermMachine$Store" "given" "[I" : Cond) ∈ AW := aw_tb (tb_1 (List.mem_of_getElem? (i := 75) rfl)) rfl
theorem tw_76 : (.fieldLinkNest "TermMachine$Teller" 81 "TermMachine$Store" "given" "[I" "TermMachine" : Cond) ∈ lw_tbl := List.mem_append_right _ (tb_1 (List.mem_of_getElem? (i := 76) rfl))
theorem aw_77 : (.fieldLink "TermMachine$Store" 28 "TermMachine$Store" "count" "I" : Cond) ∈ AW := aw_tb (tb_1 (List.mem_of_getElem? (i := 77) rfl)) rfl
theorem tw_78 : (.fieldLinkNest "TermMachine$Work" 61 "TermMachine$Store" "count" "I" "TermMachine" : Cond) ∈ lw_tbl := List.mem_append_right _ (tb_1 (List.mem_of_getElem? (i := 78) rfl))
theorem tw_79 : (.fieldLinkNest "TermMachine" 115 "TermMachine$Store" "count" "I" "TermMachine" : Cond) ∈ lw_tbl := List.mem_append_right _ (tb_1 (List.mem_of_getElem? (i := 79) rfl))
theorem aw_80 : (.laysFinal "TermMachine$Store" "TermMachine$Store" "kind" "[I" : Cond) ∈ AW := aw_tb (tb_1 (List.mem_of_getElem? (i := 80) rfl)) rfl
theorem aw_82 : (.laysFinal "TermMachine$Store" "TermMachine$Store" "content" "[J" : Cond) ∈ AW := aw_tb (tb_1 (List.mem_of_getElem? (i := 82) rfl)) rfl
theorem aw_84 : (.laysFinal "TermMachine$Store" "TermMachine$Store" "left" "[I" : Cond) ∈ AW := aw_tb (tb_1 (List.mem_of_getElem? (i := 84) rfl)) rfl
theorem aw_86 : (.laysFinal "TermMachine$Store" "TermMachine$Store" "right" "[I" : Cond) ∈ AW := aw_tb (tb_1 (List.mem_of_getElem? (i := 86) rfl)) rfl
theorem aw_88 : (.laysFinal "TermMachine$Store" "TermMachine$Store" "given" "[I" : Cond) ∈ AW := aw_tb (tb_1 (List.mem_of_getElem? (i := 88) rfl)) rfl
theorem aw_90 : (.lays "TermMachine$Store" "TermMachine$Store" "count" "I" : Cond) ∈ AW := aw_tb (tb_1 (List.mem_of_getElem? (i := 90) rfl)) rfl
theorem aw_93 : (.arrayClass .long : Cond) ∈ AW := aw_tb (tb_1 (List.mem_of_getElem? (i := 93) rfl)) rfl
theorem aw_94 : (.classLink "TermMachine$Work" 18 "TermMachine$Frames" : Cond) ∈ AW := aw_tb (tb_1 (List.mem_of_getElem? (i := 94) rfl)) rfl
theorem aw_95 : (.instantiable "TermMachine$Frames" 4 : Cond) ∈ AW := aw_tb (tb_1 (List.mem_of_getElem? (i := 95) rfl)) rfl
theorem tw_96 : (.methodLinkNest "TermMachine$Work" 20 ⟨"TermMachine$Frames", "<init>", "()V"⟩ "TermMachine" : Cond) ∈ lw_tbl := List.mem_append_right _ (tb_1 (List.mem_of_getElem? (i := 96) rfl))
theorem aw_97 : (.instanceMethod ⟨"TermMachine$Frames", "<init>", "()V"⟩ : Cond) ∈ AW := aw_tb (tb_1 (List.mem_of_getElem? (i := 97) rfl)) rfl
theorem aw_98 : (.code ⟨"TermMachine$Frames", "<init>", "()V"⟩ prog_3_method_1_code 1 none : Cond) ∈ AW := aw_tb (tb_1 (List.mem_of_getElem? (i := 98) rfl)) rfl
theorem aw_99 : (.methodLink "TermMachine$Frames" 3 ⟨"java/lang/Object", "<init>", "()V"⟩ : Cond) ∈ AW := aw_tb (tb_1 (List.mem_of_getElem? (i := 99) rfl)) rfl
theorem aw_100 : (.fieldLink "TermMachine$Frames" 9 "TermMachine$Frames" "kind" "[I" : Cond) ∈ AW := aw_tb (tb_1 (List.mem_of_getElem? (i := 100) rfl)) rfl
theorem aw_101 : (.fieldLink "TermMachine$Frames" 15 "TermMachine$Frames" "part" "[I" : Cond) ∈ AW := aw_tb (tb_1 (List.mem_of_getElem? (i := 101) rfl)) rfl
theorem aw_102 : (.fieldLink "TermMachine$Frames" 18 "TermMachine$Frames" "environment" "[I" : Cond) ∈ AW := aw_tb (tb_1 (List.mem_of_getElem? (i := 102) rfl)) rfl
theorem aw_103 : (.fieldLink "TermMachine$Frames" 21 "TermMachine$Frames" "count" "I" : Cond) ∈ AW := aw_tb (tb_1 (List.mem_of_getElem? (i := 103) rfl)) rfl
theorem tw_104 : (.fieldLinkNest "TermMachine$Work" 64 "TermMachine$Frames" "count" "I" "TermMachine" : Cond) ∈ lw_tbl := List.mem_append_right _ (tb_1 (List.mem_of_getElem? (i := 104) rfl))
theorem tw_105 : (.fieldLinkNest "TermMachine" 108 "TermMachine$Frames" "count" "I" "TermMachine" : Cond) ∈ lw_tbl := List.mem_append_right _ (tb_1 (List.mem_of_getElem? (i := 105) rfl))
theorem aw_106 : (.laysFinal "TermMachine$Frames" "TermMachine$Frames" "kind" "[I" : Cond) ∈ AW := aw_tb (tb_1 (List.mem_of_getElem? (i := 106) rfl)) rfl
theorem aw_108 : (.laysFinal "TermMachine$Frames" "TermMachine$Frames" "part" "[I" : Cond) ∈ AW := aw_tb (tb_1 (List.mem_of_getElem? (i := 108) rfl)) rfl
theorem aw_110 : (.laysFinal "TermMachine$Frames" "TermMachine$Frames" "environment" "[I" : Cond) ∈ AW := aw_tb (tb_1 (List.mem_of_getElem? (i := 110) rfl)) rfl
theorem aw_112 : (.lays "TermMachine$Frames" "TermMachine$Frames" "count" "I" : Cond) ∈ AW := aw_tb (tb_1 (List.mem_of_getElem? (i := 112) rfl)) rfl
theorem aw_115 : (.classLink "TermMachine$Work" 25 "TermMachine$Deed" : Cond) ∈ AW := aw_tb (tb_1 (List.mem_of_getElem? (i := 115) rfl)) rfl
theorem aw_116 : (.instantiable "TermMachine$Deed" 7 : Cond) ∈ AW := aw_tb (tb_1 (List.mem_of_getElem? (i := 116) rfl)) rfl
theorem tw_117 : (.methodLinkNest "TermMachine$Work" 27 ⟨"TermMachine$Deed", "<init>", "()V"⟩ "TermMachine" : Cond) ∈ lw_tbl := List.mem_append_right _ (tb_1 (List.mem_of_getElem? (i := 117) rfl))
theorem aw_118 : (.instanceMethod ⟨"TermMachine$Deed", "<init>", "()V"⟩ : Cond) ∈ AW := aw_tb (tb_1 (List.mem_of_getElem? (i := 118) rfl)) rfl
theorem aw_119 : (.code ⟨"TermMachine$Deed", "<init>", "()V"⟩ prog_2_method_1_code 1 none : Cond) ∈ AW := aw_tb (tb_1 (List.mem_of_getElem? (i := 119) rfl)) rfl
theorem aw_120 : (.methodLink "TermMachine$Deed" 3 ⟨"java/lang/Object", "<init>", "()V"⟩ : Cond) ∈ AW := aw_tb (tb_1 (List.mem_of_getElem? (i := 120) rfl)) rfl
theorem aw_121 : (.fieldLink "TermMachine$Deed" 9 "TermMachine$Deed" "arguments" "[I" : Cond) ∈ AW := aw_tb (tb_1 (List.mem_of_getElem? (i := 121) rfl)) rfl
theorem aw_122 : (.fieldLink "TermMachine$Deed" 15 "TermMachine$Deed" "operation" "I" : Cond) ∈ AW := aw_tb (tb_1 (List.mem_of_getElem? (i := 122) rfl)) rfl
theorem aw_123 : (.fieldLink "TermMachine$Deed" 19 "TermMachine$Deed" "many" "I" : Cond) ∈ AW := aw_tb (tb_1 (List.mem_of_getElem? (i := 123) rfl)) rfl
theorem aw_124 : (.fieldLink "TermMachine$Deed" 22 "TermMachine$Deed" "failed" "Z" : Cond) ∈ AW := aw_tb (tb_1 (List.mem_of_getElem? (i := 124) rfl)) rfl
theorem tw_125 : (.fieldLinkNest "TermMachine$Work" 211 "TermMachine$Deed" "failed" "Z" "TermMachine" : Cond) ∈ lw_tbl := List.mem_append_right _ (tb_1 (List.mem_of_getElem? (i := 125) rfl))
theorem aw_126 : (.fieldLink "TermMachine$Deed" 26 "TermMachine$Deed" "chosen" "I" : Cond) ∈ AW := aw_tb (tb_1 (List.mem_of_getElem? (i := 126) rfl)) rfl
theorem tw_127 : (.fieldLinkNest "TermMachine$Work" 215 "TermMachine$Deed" "chosen" "I" "TermMachine" : Cond) ∈ lw_tbl := List.mem_append_right _ (tb_1 (List.mem_of_getElem? (i := 127) rfl))
theorem aw_128 : (.fieldLink "TermMachine$Deed" 29 "TermMachine$Deed" "kind" "I" : Cond) ∈ AW := aw_tb (tb_1 (List.mem_of_getElem? (i := 128) rfl)) rfl
theorem tw_129 : (.fieldLinkNest "TermMachine$Work" 218 "TermMachine$Deed" "kind" "I" "TermMachine" : Cond) ∈ lw_tbl := List.mem_append_right _ (tb_1 (List.mem_of_getElem? (i := 129) rfl))
theorem aw_130 : (.fieldLink "TermMachine$Deed" 32 "TermMachine$Deed" "content" "J" : Cond) ∈ AW := aw_tb (tb_1 (List.mem_of_getElem? (i := 130) rfl)) rfl
theorem tw_131 : (.fieldLinkNest "TermMachine$Work" 220 "TermMachine$Deed" "content" "J" "TermMachine" : Cond) ∈ lw_tbl := List.mem_append_right _ (tb_1 (List.mem_of_getElem? (i := 131) rfl))
theorem aw_132 : (.laysFinal "TermMachine$Deed" "TermMachine$Deed" "arguments" "[I" : Cond) ∈ AW := aw_tb (tb_1 (List.mem_of_getElem? (i := 132) rfl)) rfl
theorem aw_134 : (.lays "TermMachine$Deed" "TermMachine$Deed" "operation" "I" : Cond) ∈ AW := aw_tb (tb_1 (List.mem_of_getElem? (i := 134) rfl)) rfl
theorem aw_136 : (.lays "TermMachine$Deed" "TermMachine$Deed" "many" "I" : Cond) ∈ AW := aw_tb (tb_1 (List.mem_of_getElem? (i := 136) rfl)) rfl
theorem aw_138 : (.lays "TermMachine$Deed" "TermMachine$Deed" "failed" "Z" : Cond) ∈ AW := aw_tb (tb_1 (List.mem_of_getElem? (i := 138) rfl)) rfl
theorem aw_140 : (.lays "TermMachine$Deed" "TermMachine$Deed" "chosen" "I" : Cond) ∈ AW := aw_tb (tb_1 (List.mem_of_getElem? (i := 140) rfl)) rfl
theorem aw_142 : (.lays "TermMachine$Deed" "TermMachine$Deed" "kind" "I" : Cond) ∈ AW := aw_tb (tb_1 (List.mem_of_getElem? (i := 142) rfl)) rfl
theorem aw_144 : (.lays "TermMachine$Deed" "TermMachine$Deed" "content" "J" : Cond) ∈ AW := aw_tb (tb_1 (List.mem_of_getElem? (i := 144) rfl)) rfl
theorem aw_147 : (.classLink "TermMachine$Work" 32 "TermMachine$Teller" : Cond) ∈ AW := aw_tb (tb_1 (List.mem_of_getElem? (i := 147) rfl)) rfl
theorem aw_148 : (.instantiable "TermMachine$Teller" 6 : Cond) ∈ AW := aw_tb (tb_1 (List.mem_of_getElem? (i := 148) rfl)) rfl
theorem tw_149 : (.methodLinkNest "TermMachine$Work" 34 ⟨"TermMachine$Teller", "<init>", "()V"⟩ "TermMachine" : Cond) ∈ lw_tbl := List.mem_append_right _ (tb_1 (List.mem_of_getElem? (i := 149) rfl))
theorem aw_150 : (.instanceMethod ⟨"TermMachine$Teller", "<init>", "()V"⟩ : Cond) ∈ AW := aw_tb (tb_1 (List.mem_of_getElem? (i := 150) rfl)) rfl
theorem aw_151 : (.code ⟨"TermMachine$Teller", "<init>", "()V"⟩ prog_7_method_1_code 1 none : Cond) ∈ AW := aw_tb (tb_1 (List.mem_of_getElem? (i := 151) rfl)) rfl
theorem aw_152 : (.methodLink "TermMachine$Teller" 3 ⟨"java/lang/Object", "<init>", "()V"⟩ : Cond) ∈ AW := aw_tb (tb_1 (List.mem_of_getElem? (i := 152) rfl)) rfl
theorem aw_153 : (.fieldLink "TermMachine$Teller" 9 "TermMachine$Teller" "numbers" "[I" : Cond) ∈ AW := aw_tb (tb_1 (List.mem_of_getElem? (i := 153) rfl)) rfl
theorem aw_154 : (.fieldLink "TermMachine$Teller" 15 "TermMachine$Teller" "count" "I" : Cond) ∈ AW := aw_tb (tb_1 (List.mem_of_getElem? (i := 154) rfl)) rfl
theorem tw_155 : (.fieldLinkNest "TermMachine$Work" 65 "TermMachine$Teller" "count" "I" "TermMachine" : Cond) ∈ lw_tbl := List.mem_append_right _ (tb_1 (List.mem_of_getElem? (i := 155) rfl))
theorem tw_156 : (.fieldLinkNest "TermMachine" 118 "TermMachine$Teller" "count" "I" "TermMachine" : Cond) ∈ lw_tbl := List.mem_append_right _ (tb_1 (List.mem_of_getElem? (i := 156) rfl))
theorem aw_157 : (.fieldLink "TermMachine$Teller" 19 "TermMachine$Teller" "part" "[I" : Cond) ∈ AW := aw_tb (tb_1 (List.mem_of_getElem? (i := 157) rfl)) rfl
theorem aw_158 : (.fieldLink "TermMachine$Teller" 22 "TermMachine$Teller" "environment" "[I" : Cond) ∈ AW := aw_tb (tb_1 (List.mem_of_getElem? (i := 158) rfl)) rfl
theorem aw_159 : (.fieldLink "TermMachine$Teller" 25 "TermMachine$Teller" "lambdas" "[I" : Cond) ∈ AW := aw_tb (tb_1 (List.mem_of_getElem? (i := 159) rfl)) rfl
theorem aw_160 : (.fieldLink "TermMachine$Teller" 28 "TermMachine$Teller" "waiting" "I" : Cond) ∈ AW := aw_tb (tb_1 (List.mem_of_getElem? (i := 160) rfl)) rfl
theorem aw_161 : (.laysFinal "TermMachine$Teller" "TermMachine$Teller" "numbers" "[I" : Cond) ∈ AW := aw_tb (tb_1 (List.mem_of_getElem? (i := 161) rfl)) rfl
theorem aw_163 : (.lays "TermMachine$Teller" "TermMachine$Teller" "count" "I" : Cond) ∈ AW := aw_tb (tb_1 (List.mem_of_getElem? (i := 163) rfl)) rfl
theorem aw_165 : (.laysFinal "TermMachine$Teller" "TermMachine$Teller" "part" "[I" : Cond) ∈ AW := aw_tb (tb_1 (List.mem_of_getElem? (i := 165) rfl)) rfl
theorem aw_167 : (.laysFinal "TermMachine$Teller" "TermMachine$Teller" "environment" "[I" : Cond) ∈ AW := aw_tb (tb_1 (List.mem_of_getElem? (i := 167) rfl)) rfl
theorem aw_169 : (.laysFinal "TermMachine$Teller" "TermMachine$Teller" "lambdas" "[I" : Cond) ∈ AW := aw_tb (tb_1 (List.mem_of_getElem? (i := 169) rfl)) rfl
theorem aw_171 : (.lays "TermMachine$Teller" "TermMachine$Teller" "waiting" "I" : Cond) ∈ AW := aw_tb (tb_1 (List.mem_of_getElem? (i := 171) rfl)) rfl
theorem aw_174 : (.fieldLink "TermMachine$Work" 12 "TermMachine$Work" "store" "LTermMachine$Store;" : Cond) ∈ AW := aw_tb (tb_1 (List.mem_of_getElem? (i := 174) rfl)) rfl
theorem tw_175 : (.fieldLinkNest "TermMachine" 111 "TermMachine$Work" "store" "LTermMachine$Store;" "TermMachine" : Cond) ∈ lw_tbl := List.mem_append_right _ (tb_1 (List.mem_of_getElem? (i := 175) rfl))
theorem aw_176 : (.fieldLink "TermMachine$Work" 21 "TermMachine$Work" "frames" "LTermMachine$Frames;" : Cond) ∈ AW := aw_tb (tb_1 (List.mem_of_getElem? (i := 176) rfl)) rfl
theorem tw_177 : (.fieldLinkNest "TermMachine" 104 "TermMachine$Work" "frames" "LTermMachine$Frames;" "TermMachine" : Cond) ∈ lw_tbl := List.mem_append_right _ (tb_1 (List.mem_of_getElem? (i := 177) rfl))
theorem aw_178 : (.fieldLink "TermMachine$Work" 28 "TermMachine$Work" "deed" "LTermMachine$Deed;" : Cond) ∈ AW := aw_tb (tb_1 (List.mem_of_getElem? (i := 178) rfl)) rfl
theorem aw_179 : (.fieldLink "TermMachine$Work" 35 "TermMachine$Work" "teller" "LTermMachine$Teller;" : Cond) ∈ AW := aw_tb (tb_1 (List.mem_of_getElem? (i := 179) rfl)) rfl
theorem tw_180 : (.fieldLinkNest "TermMachine" 85 "TermMachine$Work" "teller" "LTermMachine$Teller;" "TermMachine" : Cond) ∈ lw_tbl := List.mem_append_right _ (tb_1 (List.mem_of_getElem? (i := 180) rfl))
theorem aw_181 : (.fieldLink "TermMachine$Work" 39 "TermMachine$Work" "budget" "I" : Cond) ∈ AW := aw_tb (tb_1 (List.mem_of_getElem? (i := 181) rfl)) rfl
theorem aw_182 : (.fieldLink "TermMachine$Work" 43 "TermMachine$Work" "state" "I" : Cond) ∈ AW := aw_tb (tb_1 (List.mem_of_getElem? (i := 182) rfl)) rfl
theorem tw_183 : (.fieldLinkNest "TermMachine" 76 "TermMachine$Work" "state" "I" "TermMachine" : Cond) ∈ lw_tbl := List.mem_append_right _ (tb_1 (List.mem_of_getElem? (i := 183) rfl))
theorem aw_184 : (.fieldLink "TermMachine$Work" 46 "TermMachine$Work" "steps" "I" : Cond) ∈ AW := aw_tb (tb_1 (List.mem_of_getElem? (i := 184) rfl)) rfl
theorem tw_185 : (.fieldLinkNest "TermMachine" 98 "TermMachine$Work" "steps" "I" "TermMachine" : Cond) ∈ lw_tbl := List.mem_append_right _ (tb_1 (List.mem_of_getElem? (i := 185) rfl))
theorem aw_186 : (.fieldLink "TermMachine$Work" 49 "TermMachine$Work" "costs" "I" : Cond) ∈ AW := aw_tb (tb_1 (List.mem_of_getElem? (i := 186) rfl)) rfl
theorem tw_187 : (.fieldLinkNest "TermMachine" 101 "TermMachine$Work" "costs" "I" "TermMachine" : Cond) ∈ lw_tbl := List.mem_append_right _ (tb_1 (List.mem_of_getElem? (i := 187) rfl))
theorem aw_188 : (.fieldLink "TermMachine$Work" 52 "TermMachine$Work" "term" "I" : Cond) ∈ AW := aw_tb (tb_1 (List.mem_of_getElem? (i := 188) rfl)) rfl
theorem aw_189 : (.fieldLink "TermMachine$Work" 55 "TermMachine$Work" "environment" "I" : Cond) ∈ AW := aw_tb (tb_1 (List.mem_of_getElem? (i := 189) rfl)) rfl
theorem aw_190 : (.fieldLink "TermMachine$Work" 58 "TermMachine$Work" "value" "I" : Cond) ∈ AW := aw_tb (tb_1 (List.mem_of_getElem? (i := 190) rfl)) rfl
theorem aw_191 : (.laysFinal "TermMachine$Work" "TermMachine$Work" "store" "LTermMachine$Store;" : Cond) ∈ AW := aw_tb (tb_1 (List.mem_of_getElem? (i := 191) rfl)) rfl
theorem aw_193 : (.laysFinal "TermMachine$Work" "TermMachine$Work" "frames" "LTermMachine$Frames;" : Cond) ∈ AW := aw_tb (tb_1 (List.mem_of_getElem? (i := 193) rfl)) rfl
theorem aw_195 : (.laysFinal "TermMachine$Work" "TermMachine$Work" "deed" "LTermMachine$Deed;" : Cond) ∈ AW := aw_tb (tb_1 (List.mem_of_getElem? (i := 195) rfl)) rfl
theorem aw_197 : (.laysFinal "TermMachine$Work" "TermMachine$Work" "teller" "LTermMachine$Teller;" : Cond) ∈ AW := aw_tb (tb_1 (List.mem_of_getElem? (i := 197) rfl)) rfl
theorem aw_199 : (.lays "TermMachine$Work" "TermMachine$Work" "budget" "I" : Cond) ∈ AW := aw_tb (tb_1 (List.mem_of_getElem? (i := 199) rfl)) rfl
theorem aw_201 : (.lays "TermMachine$Work" "TermMachine$Work" "state" "I" : Cond) ∈ AW := aw_tb (tb_1 (List.mem_of_getElem? (i := 201) rfl)) rfl
theorem aw_203 : (.lays "TermMachine$Work" "TermMachine$Work" "steps" "I" : Cond) ∈ AW := aw_tb (tb_1 (List.mem_of_getElem? (i := 203) rfl)) rfl
theorem aw_205 : (.lays "TermMachine$Work" "TermMachine$Work" "costs" "I" : Cond) ∈ AW := aw_tb (tb_1 (List.mem_of_getElem? (i := 205) rfl)) rfl
theorem aw_207 : (.lays "TermMachine$Work" "TermMachine$Work" "term" "I" : Cond) ∈ AW := aw_tb (tb_1 (List.mem_of_getElem? (i := 207) rfl)) rfl
theorem aw_209 : (.lays "TermMachine$Work" "TermMachine$Work" "environment" "I" : Cond) ∈ AW := aw_tb (tb_1 (List.mem_of_getElem? (i := 209) rfl)) rfl
theorem aw_211 : (.lays "TermMachine$Work" "TermMachine$Work" "value" "I" : Cond) ∈ AW := aw_tb (tb_1 (List.mem_of_getElem? (i := 211) rfl)) rfl
theorem aw_214 : (.classLink "TermMachine" 23 "TermMachine$Program" : Cond) ∈ AW := aw_tb (tb_1 (List.mem_of_getElem? (i := 214) rfl)) rfl
theorem aw_215 : (.instantiable "TermMachine$Program" 6 : Cond) ∈ AW := aw_tb (tb_1 (List.mem_of_getElem? (i := 215) rfl)) rfl
theorem tw_216 : (.methodLinkNest "TermMachine" 25 ⟨"TermMachine$Program", "<init>", "()V"⟩ "TermMachine" : Cond) ∈ lw_tbl := List.mem_append_right _ (tb_1 (List.mem_of_getElem? (i := 216) rfl))
theorem aw_217 : (.instanceMethod ⟨"TermMachine$Program", "<init>", "()V"⟩ : Cond) ∈ AW := aw_tb (tb_1 (List.mem_of_getElem? (i := 217) rfl)) rfl
theorem aw_218 : (.code ⟨"TermMachine$Program", "<init>", "()V"⟩ prog_5_method_1_code 1 none : Cond) ∈ AW := aw_tb (tb_1 (List.mem_of_getElem? (i := 218) rfl)) rfl
theorem aw_219 : (.methodLink "TermMachine$Program" 3 ⟨"java/lang/Object", "<init>", "()V"⟩ : Cond) ∈ AW := aw_tb (tb_1 (List.mem_of_getElem? (i := 219) rfl)) rfl
theorem aw_220 : (.fieldLink "TermMachine$Program" 9 "TermMachine$Program" "kind" "[I" : Cond) ∈ AW := aw_tb (tb_1 (List.mem_of_getElem? (i := 220) rfl)) rfl
theorem tw_221 : (.fieldLinkNest "TermMachine$Teller" 93 "TermMachine$Program" "kind" "[I" "TermMachine" : Cond) ∈ lw_tbl := List.mem_append_right _ (tb_1 (List.mem_of_getElem? (i := 221) rfl))
theorem tw_222 : (.fieldLinkNest "TermMachine$Work" 114 "TermMachine$Program" "kind" "[I" "TermMachine" : Cond) ∈ lw_tbl := List.mem_append_right _ (tb_1 (List.mem_of_getElem? (i := 222) rfl))
theorem aw_223 : (.fieldLink "TermMachine$Program" 15 "TermMachine$Program" "first" "[I" : Cond) ∈ AW := aw_tb (tb_1 (List.mem_of_getElem? (i := 223) rfl)) rfl
theorem tw_224 : (.fieldLinkNest "TermMachine$Teller" 96 "TermMachine$Program" "first" "[I" "TermMachine" : Cond) ∈ lw_tbl := List.mem_append_right _ (tb_1 (List.mem_of_getElem? (i := 224) rfl))
theorem tw_225 : (.fieldLinkNest "TermMachine$Work" 156 "TermMachine$Program" "first" "[I" "TermMachine" : Cond) ∈ lw_tbl := List.mem_append_right _ (tb_1 (List.mem_of_getElem? (i := 225) rfl))
theorem aw_226 : (.fieldLink "TermMachine$Program" 18 "TermMachine$Program" "second" "[I" : Cond) ∈ AW := aw_tb (tb_1 (List.mem_of_getElem? (i := 226) rfl)) rfl
theorem tw_227 : (.fieldLinkNest "TermMachine$Teller" 104 "TermMachine$Program" "second" "[I" "TermMachine" : Cond) ∈ lw_tbl := List.mem_append_right _ (tb_1 (List.mem_of_getElem? (i := 227) rfl))
theorem tw_228 : (.fieldLinkNest "TermMachine$Work" 139 "TermMachine$Program" "second" "[I" "TermMachine" : Cond) ∈ lw_tbl := List.mem_append_right _ (tb_1 (List.mem_of_getElem? (i := 228) rfl))
theorem aw_229 : (.fieldLink "TermMachine$Program" 21 "TermMachine$Program" "content" "[J" : Cond) ∈ AW := aw_tb (tb_1 (List.mem_of_getElem? (i := 229) rfl)) rfl
theorem tw_230 : (.fieldLinkNest "TermMachine$Teller" 99 "TermMachine$Program" "content" "[J" "TermMachine" : Cond) ∈ lw_tbl := List.mem_append_right _ (tb_1 (List.mem_of_getElem? (i := 230) rfl))
theorem tw_231 : (.fieldLinkNest "TermMachine$Work" 124 "TermMachine$Program" "content" "[J" "TermMachine" : Cond) ∈ lw_tbl := List.mem_append_right _ (tb_1 (List.mem_of_getElem? (i := 231) rfl))
theorem aw_232 : (.fieldLink "TermMachine$Program" 25 "TermMachine$Program" "count" "I" : Cond) ∈ AW := aw_tb (tb_1 (List.mem_of_getElem? (i := 232) rfl)) rfl
theorem tw_233 : (.fieldLinkNest "TermMachine" 63 "TermMachine$Program" "count" "I" "TermMachine" : Cond) ∈ lw_tbl := List.mem_append_right _ (tb_1 (List.mem_of_getElem? (i := 233) rfl))
theorem aw_234 : (.fieldLink "TermMachine$Program" 29 "TermMachine$Program" "version" "I" : Cond) ∈ AW := aw_tb (tb_1 (List.mem_of_getElem? (i := 234) rfl)) rfl
theorem tw_235 : (.fieldLinkNest "TermMachine" 95 "TermMachine$Program" "version" "I" "TermMachine" : Cond) ∈ lw_tbl := List.mem_append_right _ (tb_1 (List.mem_of_getElem? (i := 235) rfl))
theorem aw_236 : (.laysFinal "TermMachine$Program" "TermMachine$Program" "kind" "[I" : Cond) ∈ AW := aw_tb (tb_1 (List.mem_of_getElem? (i := 236) rfl)) rfl
theorem aw_238 : (.laysFinal "TermMachine$Program" "TermMachine$Program" "first" "[I" : Cond) ∈ AW := aw_tb (tb_1 (List.mem_of_getElem? (i := 238) rfl)) rfl
theorem aw_240 : (.laysFinal "TermMachine$Program" "TermMachine$Program" "second" "[I" : Cond) ∈ AW := aw_tb (tb_2 (List.mem_of_getElem? (i := 0) rfl)) rfl
theorem aw_242 : (.laysFinal "TermMachine$Program" "TermMachine$Program" "content" "[J" : Cond) ∈ AW := aw_tb (tb_2 (List.mem_of_getElem? (i := 2) rfl)) rfl
theorem aw_244 : (.lays "TermMachine$Program" "TermMachine$Program" "count" "I" : Cond) ∈ AW := aw_tb (tb_2 (List.mem_of_getElem? (i := 4) rfl)) rfl
theorem aw_246 : (.lays "TermMachine$Program" "TermMachine$Program" "version" "I" : Cond) ∈ AW := aw_tb (tb_2 (List.mem_of_getElem? (i := 6) rfl)) rfl
theorem aw_249 : (.fieldLink "TermMachine" 10 "TermMachine" "input" "LTermMachine$Text;" : Cond) ∈ AW := aw_tb (tb_2 (List.mem_of_getElem? (i := 9) rfl)) rfl
theorem aw_250 : (.fieldLink "TermMachine" 19 "TermMachine" "work" "LTermMachine$Work;" : Cond) ∈ AW := aw_tb (tb_2 (List.mem_of_getElem? (i := 10) rfl)) rfl
theorem aw_251 : (.fieldLink "TermMachine" 26 "TermMachine" "program" "LTermMachine$Program;" : Cond) ∈ AW := aw_tb (tb_2 (List.mem_of_getElem? (i := 11) rfl)) rfl
theorem aw_252 : (.fieldLink "TermMachine" 30 "TermMachine" "spare" "LTermMachine$Program;" : Cond) ∈ AW := aw_tb (tb_2 (List.mem_of_getElem? (i := 12) rfl)) rfl
theorem aw_253 : (.laysFinal "TermMachine" "TermMachine" "input" "LTermMachine$Text;" : Cond) ∈ AW := aw_tb (tb_2 (List.mem_of_getElem? (i := 13) rfl)) rfl
theorem aw_255 : (.laysFinal "TermMachine" "TermMachine" "work" "LTermMachine$Work;" : Cond) ∈ AW := aw_tb (tb_2 (List.mem_of_getElem? (i := 15) rfl)) rfl
theorem aw_257 : (.lays "TermMachine" "TermMachine" "program" "LTermMachine$Program;" : Cond) ∈ AW := aw_tb (tb_2 (List.mem_of_getElem? (i := 17) rfl)) rfl
theorem aw_259 : (.lays "TermMachine" "TermMachine" "spare" "LTermMachine$Program;" : Cond) ∈ AW := aw_tb (tb_2 (List.mem_of_getElem? (i := 19) rfl)) rfl
theorem aw_262 : (.methodLink "TermMachineLaw" 39 ⟨"TermMachine", "read", "()I"⟩ : Cond) ∈ AW := aw_tb (tb_2 (List.mem_of_getElem? (i := 22) rfl)) rfl
theorem aw_263 : (.instanceMethod ⟨"TermMachine", "read", "()I"⟩ : Cond) ∈ AW := aw_tb (tb_2 (List.mem_of_getElem? (i := 23) rfl)) rfl
theorem aw_264 : (.selects "TermMachine" ⟨"TermMachine", "read", "()I"⟩ ⟨"TermMachine", "read", "()I"⟩ : Cond) ∈ AW := aw_tb (tb_2 (List.mem_of_getElem? (i := 24) rfl)) rfl
theorem aw_265 : (.code ⟨"TermMachine", "read", "()I"⟩ prog_1_method_3_code 2 (some .int) : Cond) ∈ AW := aw_tb (tb_2 (List.mem_of_getElem? (i := 25) rfl)) rfl
theorem aw_266 : (.methodLink "TermMachine" 53 ⟨"TermMachine$Program", "fill", "(LTermMachine$Text;)V"⟩ : Cond) ∈ AW := aw_tb (tb_2 (List.mem_of_getElem? (i := 26) rfl)) rfl
theorem aw_267 : (.instanceMethod ⟨"TermMachine$Program", "fill", "(LTermMachine$Text;)V"⟩ : Cond) ∈ AW := aw_tb (tb_2 (List.mem_of_getElem? (i := 27) rfl)) rfl
theorem aw_268 : (.selects "TermMachine$Program" ⟨"TermMachine$Program", "fill", "(LTermMachine$Text;)V"⟩ ⟨"TermMachine$Program", "fill", "(LTermMachine$Text;)V"⟩ : Cond) ∈ AW := aw_tb (tb_2 (List.mem_of_getElem? (i := 28) rfl)) rfl
theorem aw_269 : (.code ⟨"TermMachine$Program", "fill", "(LTermMachine$Text;)V"⟩ prog_5_method_2_code 2 none : Cond) ∈ AW := aw_tb (tb_2 (List.mem_of_getElem? (i := 29) rfl)) rfl
theorem aw_270 : (.methodLink "TermMachine$Program" 32 ⟨"TermMachine$Text", "rewind", "()V"⟩ : Cond) ∈ AW := aw_tb (tb_2 (List.mem_of_getElem? (i := 30) rfl)) rfl
theorem aw_271 : (.instanceMethod ⟨"TermMachine$Text", "rewind", "()V"⟩ : Cond) ∈ AW := aw_tb (tb_2 (List.mem_of_getElem? (i := 31) rfl)) rfl
theorem aw_272 : (.selects "TermMachine$Text" ⟨"TermMachine$Text", "rewind", "()V"⟩ ⟨"TermMachine$Text", "rewind", "()V"⟩ : Cond) ∈ AW := aw_tb (tb_2 (List.mem_of_getElem? (i := 32) rfl)) rfl
theorem aw_273 : (.code ⟨"TermMachine$Text", "rewind", "()V"⟩ prog_8_method_3_code 1 none : Cond) ∈ AW := aw_tb (tb_2 (List.mem_of_getElem? (i := 33) rfl)) rfl
theorem aw_274 : (.methodLink "TermMachine$Program" 37 ⟨"TermMachine$Text", "takeNatural", "()I"⟩ : Cond) ∈ AW := aw_tb (tb_2 (List.mem_of_getElem? (i := 34) rfl)) rfl
theorem aw_275 : (.instanceMethod ⟨"TermMachine$Text", "takeNatural", "()I"⟩ : Cond) ∈ AW := aw_tb (tb_2 (List.mem_of_getElem? (i := 35) rfl)) rfl
theorem aw_276 : (.selects "TermMachine$Text" ⟨"TermMachine$Text", "takeNatural", "()I"⟩ ⟨"TermMachine$Text", "takeNatural", "()I"⟩ : Cond) ∈ AW := aw_tb (tb_2 (List.mem_of_getElem? (i := 36) rfl)) rfl
theorem aw_277 : (.code ⟨"TermMachine$Text", "takeNatural", "()I"⟩ prog_8_method_9_code 5 (some .int) : Cond) ∈ AW := aw_tb (tb_2 (List.mem_of_getElem? (i := 37) rfl)) rfl
theorem aw_278 : (.methodLink "TermMachine$Text" 37 ⟨"TermMachine$Text", "take", "(I)I"⟩ : Cond) ∈ AW := aw_tb (tb_2 (List.mem_of_getElem? (i := 38) rfl)) rfl
theorem aw_279 : (.instanceMethod ⟨"TermMachine$Text", "take", "(I)I"⟩ : Cond) ∈ AW := aw_tb (tb_2 (List.mem_of_getElem? (i := 39) rfl)) rfl
theorem aw_280 : (.selects "TermMachine$Text" ⟨"TermMachine$Text", "take", "(I)I"⟩ ⟨"TermMachine$Text", "take", "(I)I"⟩ : Cond) ∈ AW := aw_tb (tb_2 (List.mem_of_getElem? (i := 40) rfl)) rfl
theorem aw_281 : (.code ⟨"TermMachine$Text", "take", "(I)I"⟩ prog_8_method_8_code 4 (some .int) : Cond) ∈ AW := aw_tb (tb_2 (List.mem_of_getElem? (i := 41) rfl)) rfl
theorem aw_282 : (.methodLink "TermMachine$Text" 29 ⟨"TermMachine$Text", "bits", "()I"⟩ : Cond) ∈ AW := aw_tb (tb_2 (List.mem_of_getElem? (i := 42) rfl)) rfl
theorem aw_283 : (.instanceMethod ⟨"TermMachine$Text", "bits", "()I"⟩ : Cond) ∈ AW := aw_tb (tb_2 (List.mem_of_getElem? (i := 43) rfl)) rfl
theorem aw_284 : (.selects "TermMachine$Text" ⟨"TermMachine$Text", "bits", "()I"⟩ ⟨"TermMachine$Text", "bits", "()I"⟩ : Cond) ∈ AW := aw_tb (tb_2 (List.mem_of_getElem? (i := 44) rfl)) rfl
theorem aw_285 : (.code ⟨"TermMachine$Text", "bits", "()I"⟩ prog_8_method_4_code 1 (some .int) : Cond) ∈ AW := aw_tb (tb_2 (List.mem_of_getElem? (i := 45) rfl)) rfl
theorem aw_286 : (.methodLink "TermMachine$Text" 25 ⟨"TermMachine$Text", "refuse", "(I)V"⟩ : Cond) ∈ AW := aw_tb (tb_2 (List.mem_of_getElem? (i := 46) rfl)) rfl
theorem aw_287 : (.instanceMethod ⟨"TermMachine$Text", "refuse", "(I)V"⟩ : Cond) ∈ AW := aw_tb (tb_2 (List.mem_of_getElem? (i := 47) rfl)) rfl
theorem aw_288 : (.selects "TermMachine$Text" ⟨"TermMachine$Text", "refuse", "(I)V"⟩ ⟨"TermMachine$Text", "refuse", "(I)V"⟩ : Cond) ∈ AW := aw_tb (tb_2 (List.mem_of_getElem? (i := 48) rfl)) rfl
theorem aw_289 : (.code ⟨"TermMachine$Text", "refuse", "(I)V"⟩ prog_8_method_6_code 2 none : Cond) ∈ AW := aw_tb (tb_2 (List.mem_of_getElem? (i := 49) rfl)) rfl
theorem aw_290 : (.methodLink "TermMachine$Text" 33 ⟨"TermMachine$Text", "bitAt", "(I)I"⟩ : Cond) ∈ AW := aw_tb (tb_2 (List.mem_of_getElem? (i := 50) rfl)) rfl
theorem aw_291 : (.instanceMethod ⟨"TermMachine$Text", "bitAt", "(I)I"⟩ : Cond) ∈ AW := aw_tb (tb_2 (List.mem_of_getElem? (i := 51) rfl)) rfl
theorem aw_292 : (.selects "TermMachine$Text" ⟨"TermMachine$Text", "bitAt", "(I)I"⟩ ⟨"TermMachine$Text", "bitAt", "(I)I"⟩ : Cond) ∈ AW := aw_tb (tb_2 (List.mem_of_getElem? (i := 52) rfl)) rfl
theorem aw_293 : (.code ⟨"TermMachine$Text", "bitAt", "(I)I"⟩ prog_8_method_5_code 3 (some .int) : Cond) ∈ AW := aw_tb (tb_2 (List.mem_of_getElem? (i := 53) rfl)) rfl
theorem aw_294 : (.constantLong "TermMachine$Text" 40 2147483647 : Cond) ∈ AW := aw_tb (tb_2 (List.mem_of_getElem? (i := 54) rfl)) rfl
theorem aw_295 : (.methodLink "TermMachine$Text" 42 ⟨"TermMachine$Text", "refuseLatest", "()V"⟩ : Cond) ∈ AW := aw_tb (tb_2 (List.mem_of_getElem? (i := 55) rfl)) rfl
theorem aw_296 : (.instanceMethod ⟨"TermMachine$Text", "refuseLatest", "()V"⟩ : Cond) ∈ AW := aw_tb (tb_2 (List.mem_of_getElem? (i := 56) rfl)) rfl
theorem aw_297 : (.selects "TermMachine$Text" ⟨"TermMachine$Text", "refuseLatest", "()V"⟩ ⟨"TermMachine$Text", "refuseLatest", "()V"⟩ : Cond) ∈ AW := aw_tb (tb_2 (List.mem_of_getElem? (i := 57) rfl)) rfl
theorem aw_298 : (.code ⟨"TermMachine$Text", "refuseLatest", "()V"⟩ prog_8_method_7_code 1 none : Cond) ∈ AW := aw_tb (tb_2 (List.mem_of_getElem? (i := 58) rfl)) rfl
theorem aw_299 : (.methodLink "TermMachine$Program" 41 ⟨"TermMachine$Program", "fillTerm", "(LTermMachine$Text;II)I"⟩ : Cond) ∈ AW := aw_tb (tb_2 (List.mem_of_getElem? (i := 59) rfl)) rfl
theorem aw_301 : (.instanceMethod ⟨"TermMachine$Program", "fillTerm", "(LTermMachine$Text;II)I"⟩ : Cond) ∈ AW := aw_tb (tb_2 (List.mem_of_getElem? (i := 61) rfl)) rfl
theorem aw_302 : (.code ⟨"TermMachine$Program", "fillTerm", "(LTermMachine$Text;II)I"⟩ prog_5_method_4_code 7 (some .int) : Cond) ∈ AW := aw_tb (tb_2 (List.mem_of_getElem? (i := 62) rfl)) rfl
theorem aw_303 : (.methodLink "TermMachine$Program" 48 ⟨"TermMachine$Text", "take", "(I)I"⟩ : Cond) ∈ AW := aw_tb (tb_2 (List.mem_of_getElem? (i := 63) rfl)) rfl
theorem aw_304 : (.methodLink "TermMachine$Program" 55 ⟨"TermMachine$Program", "add", "(I)I"⟩ : Cond) ∈ AW := aw_tb (tb_2 (List.mem_of_getElem? (i := 64) rfl)) rfl
theorem aw_306 : (.instanceMethod ⟨"TermMachine$Program", "add", "(I)I"⟩ : Cond) ∈ AW := aw_tb (tb_2 (List.mem_of_getElem? (i := 66) rfl)) rfl
theorem aw_307 : (.code ⟨"TermMachine$Program", "add", "(I)I"⟩ prog_5_method_3_code 2 (some .int) : Cond) ∈ AW := aw_tb (tb_2 (List.mem_of_getElem? (i := 67) rfl)) rfl
theorem aw_308 : (.methodLink "TermMachine$Program" 58 ⟨"TermMachine$Text", "refuseLatest", "()V"⟩ : Cond) ∈ AW := aw_tb (tb_2 (List.mem_of_getElem? (i := 68) rfl)) rfl
theorem aw_309 : (.methodLink "TermMachine$Program" 61 ⟨"TermMachine$Program", "takeVariable", "(LTermMachine$Text;I)I"⟩ : Cond) ∈ AW := aw_tb (tb_2 (List.mem_of_getElem? (i := 69) rfl)) rfl
theorem aw_310 : (.static ⟨"TermMachine$Program", "takeVariable", "(LTermMachine$Text;I)I"⟩ : Cond) ∈ AW := aw_tb (tb_2 (List.mem_of_getElem? (i := 70) rfl)) rfl
theorem aw_311 : (.code ⟨"TermMachine$Program", "takeVariable", "(LTermMachine$Text;I)I"⟩ prog_5_method_5_code 3 (some .int) : Cond) ∈ AW := aw_tb (tb_2 (List.mem_of_getElem? (i := 71) rfl)) rfl
theorem aw_312 : (.methodLink "TermMachine$Program" 65 ⟨"TermMachine$Program", "takeConstant", "(LTermMachine$Text;I)J"⟩ : Cond) ∈ AW := aw_tb (tb_2 (List.mem_of_getElem? (i := 72) rfl)) rfl
theorem aw_313 : (.static ⟨"TermMachine$Program", "takeConstant", "(LTermMachine$Text;I)J"⟩ : Cond) ∈ AW := aw_tb (tb_2 (List.mem_of_getElem? (i := 73) rfl)) rfl
theorem aw_314 : (.code ⟨"TermMachine$Program", "takeConstant", "(LTermMachine$Text;I)J"⟩ prog_5_method_7_code 2 (some .long) : Cond) ∈ AW := aw_tb (tb_2 (List.mem_of_getElem? (i := 74) rfl)) rfl
theorem aw_315 : (.methodLink "TermMachine$Program" 73 ⟨"TermMachine$Program", "signed", "(I)I"⟩ : Cond) ∈ AW := aw_tb (tb_2 (List.mem_of_getElem? (i := 75) rfl)) rfl
theorem aw_316 : (.static ⟨"TermMachine$Program", "signed", "(I)I"⟩ : Cond) ∈ AW := aw_tb (tb_2 (List.mem_of_getElem? (i := 76) rfl)) rfl
theorem aw_317 : (.code ⟨"TermMachine$Program", "signed", "(I)I"⟩ prog_5_method_8_code 1 (some .int) : Cond) ∈ AW := aw_tb (tb_2 (List.mem_of_getElem? (i := 77) rfl)) rfl
theorem aw_318 : (.methodLink "TermMachine$Program" 76 ⟨"TermMachine$Text", "takeBytes", "()J"⟩ : Cond) ∈ AW := aw_tb (tb_2 (List.mem_of_getElem? (i := 78) rfl)) rfl
theorem aw_319 : (.instanceMethod ⟨"TermMachine$Text", "takeBytes", "()J"⟩ : Cond) ∈ AW := aw_tb (tb_2 (List.mem_of_getElem? (i := 79) rfl)) rfl
theorem aw_320 : (.selects "TermMachine$Text" ⟨"TermMachine$Text", "takeBytes", "()J"⟩ ⟨"TermMachine$Text", "takeBytes", "()J"⟩ : Cond) ∈ AW := aw_tb (tb_2 (List.mem_of_getElem? (i := 80) rfl)) rfl
theorem aw_321 : (.code ⟨"TermMachine$Text", "takeBytes", "()J"⟩ prog_8_method_10_code 5 (some .long) : Cond) ∈ AW := aw_tb (tb_2 (List.mem_of_getElem? (i := 81) rfl)) rfl
theorem aw_322 : (.methodLink "TermMachine$Text" 45 ⟨"TermMachine$Packed", "of", "(IJ)J"⟩ : Cond) ∈ AW := aw_tb (tb_2 (List.mem_of_getElem? (i := 82) rfl)) rfl
theorem aw_323 : (.static ⟨"TermMachine$Packed", "of", "(IJ)J"⟩ : Cond) ∈ AW := aw_tb (tb_2 (List.mem_of_getElem? (i := 83) rfl)) rfl
theorem aw_324 : (.code ⟨"TermMachine$Packed", "of", "(IJ)J"⟩ prog_4_method_2_code 3 (some .long) : Cond) ∈ AW := aw_tb (tb_2 (List.mem_of_getElem? (i := 84) rfl)) rfl
theorem aw_325 : (.methodLink "TermMachine$Program" 69 ⟨"TermMachine$Program", "takeOperation", "(LTermMachine$Text;)I"⟩ : Cond) ∈ AW := aw_tb (tb_2 (List.mem_of_getElem? (i := 85) rfl)) rfl
theorem aw_326 : (.static ⟨"TermMachine$Program", "takeOperation", "(LTermMachine$Text;)I"⟩ : Cond) ∈ AW := aw_tb (tb_2 (List.mem_of_getElem? (i := 86) rfl)) rfl
theorem aw_327 : (.code ⟨"TermMachine$Program", "takeOperation", "(LTermMachine$Text;)I"⟩ prog_5_method_6_code 2 (some .int) : Cond) ∈ AW := aw_tb (tb_2 (List.mem_of_getElem? (i := 87) rfl)) rfl
theorem aw_328 : (.methodLink "TermMachine$Program" 45 ⟨"TermMachine$Text", "takeEnding", "()V"⟩ : Cond) ∈ AW := aw_tb (tb_2 (List.mem_of_getElem? (i := 88) rfl)) rfl
theorem aw_329 : (.instanceMethod ⟨"TermMachine$Text", "takeEnding", "()V"⟩ : Cond) ∈ AW := aw_tb (tb_2 (List.mem_of_getElem? (i := 89) rfl)) rfl
theorem aw_330 : (.selects "TermMachine$Text" ⟨"TermMachine$Text", "takeEnding", "()V"⟩ ⟨"TermMachine$Text", "takeEnding", "()V"⟩ : Cond) ∈ AW := aw_tb (tb_2 (List.mem_of_getElem? (i := 90) rfl)) rfl
theorem aw_331 : (.code ⟨"TermMachine$Text", "takeEnding", "()V"⟩ prog_8_method_11_code 3 none : Cond) ∈ AW := aw_tb (tb_2 (List.mem_of_getElem? (i := 91) rfl)) rfl
theorem aw_332 : (.methodLink "TermMachine" 60 ⟨"TermMachine$Work", "forget", "()V"⟩ : Cond) ∈ AW := aw_tb (tb_2 (List.mem_of_getElem? (i := 92) rfl)) rfl
theorem aw_333 : (.instanceMethod ⟨"TermMachine$Work", "forget", "()V"⟩ : Cond) ∈ AW := aw_tb (tb_2 (List.mem_of_getElem? (i := 93) rfl)) rfl
theorem aw_334 : (.selects "TermMachine$Work" ⟨"TermMachine$Work", "forget", "()V"⟩ ⟨"TermMachine$Work", "forget", "()V"⟩ : Cond) ∈ AW := aw_tb (tb_2 (List.mem_of_getElem? (i := 94) rfl)) rfl
theorem aw_335 : (.code ⟨"TermMachine$Work", "forget", "()V"⟩ prog_9_method_2_code 1 none : Cond) ∈ AW := aw_tb (tb_2 (List.mem_of_getElem? (i := 95) rfl)) rfl
theorem aw_336 : (.methodLink "TermMachineLaw" 50 ⟨"TermMachine", "told", "(I)I"⟩ : Cond) ∈ AW := aw_tb (tb_2 (List.mem_of_getElem? (i := 96) rfl)) rfl
theorem aw_337 : (.instanceMethod ⟨"TermMachine", "told", "(I)I"⟩ : Cond) ∈ AW := aw_tb (tb_2 (List.mem_of_getElem? (i := 97) rfl)) rfl
theorem aw_338 : (.selects "TermMachine" ⟨"TermMachine", "told", "(I)I"⟩ ⟨"TermMachine", "told", "(I)I"⟩ : Cond) ∈ AW := aw_tb (tb_2 (List.mem_of_getElem? (i := 98) rfl)) rfl
theorem aw_339 : (.code ⟨"TermMachine", "told", "(I)I"⟩ prog_1_method_6_code 2 (some .int) : Cond) ∈ AW := aw_tb (tb_2 (List.mem_of_getElem? (i := 99) rfl)) rfl
theorem aw_340 : (.methodLink "TermMachine" 89 ⟨"TermMachine$Teller", "numberAt", "(I)I"⟩ : Cond) ∈ AW := aw_tb (tb_2 (List.mem_of_getElem? (i := 100) rfl)) rfl
theorem aw_341 : (.instanceMethod ⟨"TermMachine$Teller", "numberAt", "(I)I"⟩ : Cond) ∈ AW := aw_tb (tb_2 (List.mem_of_getElem? (i := 101) rfl)) rfl
theorem aw_342 : (.selects "TermMachine$Teller" ⟨"TermMachine$Teller", "numberAt", "(I)I"⟩ ⟨"TermMachine$Teller", "numberAt", "(I)I"⟩ : Cond) ∈ AW := aw_tb (tb_2 (List.mem_of_getElem? (i := 102) rfl)) rfl
theorem aw_343 : (.code ⟨"TermMachine$Teller", "numberAt", "(I)I"⟩ prog_7_method_2_code 2 (some .int) : Cond) ∈ AW := aw_tb (tb_2 (List.mem_of_getElem? (i := 103) rfl)) rfl
theorem tw_344 : (.methodLinkNest "TermMachine$Teller" 31 ⟨"TermMachine", "at", "([II)I"⟩ "TermMachine" : Cond) ∈ lw_tbl := List.mem_append_right _ (tb_2 (List.mem_of_getElem? (i := 104) rfl))
theorem aw_345 : (.static ⟨"TermMachine", "at", "([II)I"⟩ : Cond) ∈ AW := aw_tb (tb_2 (List.mem_of_getElem? (i := 105) rfl)) rfl
theorem aw_346 : (.code ⟨"TermMachine", "at", "([II)I"⟩ prog_1_method_8_code 2 (some .int) : Cond) ∈ AW := aw_tb (tb_2 (List.mem_of_getElem? (i := 106) rfl)) rfl
theorem aw_347 : (.methodLink "TermMachineLaw" 54 ⟨"TermMachine", "about", "(I)I"⟩ : Cond) ∈ AW := aw_tb (tb_2 (List.mem_of_getElem? (i := 107) rfl)) rfl
theorem aw_348 : (.instanceMethod ⟨"TermMachine", "about", "(I)I"⟩ : Cond) ∈ AW := aw_tb (tb_2 (List.mem_of_getElem? (i := 108) rfl)) rfl
theorem aw_349 : (.selects "TermMachine" ⟨"TermMachine", "about", "(I)I"⟩ ⟨"TermMachine", "about", "(I)I"⟩ : Cond) ∈ AW := aw_tb (tb_2 (List.mem_of_getElem? (i := 109) rfl)) rfl
theorem aw_350 : (.code ⟨"TermMachine", "about", "(I)I"⟩ prog_1_method_7_code 2 (some .int) : Cond) ∈ AW := aw_tb (tb_2 (List.mem_of_getElem? (i := 110) rfl)) rfl
theorem aw_351 : (.methodLink "TermMachineLaw" 29 ⟨"TermMachineLaw", "text", "(LTermMachine;II[J)I"⟩ : Cond) ∈ AW := aw_tb (tb_2 (List.mem_of_getElem? (i := 111) rfl)) rfl
theorem aw_352 : (.static ⟨"TermMachineLaw", "text", "(LTermMachine;II[J)I"⟩ : Cond) ∈ AW := aw_tb (tb_2 (List.mem_of_getElem? (i := 112) rfl)) rfl
theorem aw_354 : (.classLink "TermMachineLaw" 13 "java/lang/IllegalArgumentException" : Cond) ∈ AW := aw_tb (tb_2 (List.mem_of_getElem? (i := 114) rfl)) rfl
theorem aw_355 : (.classLink "TermMachineLaw" 15 "java/lang/IllegalStateException" : Cond) ∈ AW := aw_tb (tb_2 (List.mem_of_getElem? (i := 115) rfl)) rfl
theorem aw_356 : (.methodLink "TermMachineLaw" 7 ⟨"TermMachine", "text", "(II)I"⟩ : Cond) ∈ AW := aw_tb (tb_2 (List.mem_of_getElem? (i := 116) rfl)) rfl
theorem aw_357 : (.instanceMethod ⟨"TermMachine", "text", "(II)I"⟩ : Cond) ∈ AW := aw_tb (tb_2 (List.mem_of_getElem? (i := 117) rfl)) rfl
theorem aw_358 : (.selects "TermMachine" ⟨"TermMachine", "text", "(II)I"⟩ ⟨"TermMachine", "text", "(II)I"⟩ : Cond) ∈ AW := aw_tb (tb_2 (List.mem_of_getElem? (i := 118) rfl)) rfl
theorem aw_359 : (.code ⟨"TermMachine", "text", "(II)I"⟩ prog_1_method_2_code 4 (some .int) : Cond) ∈ AW := aw_tb (tb_2 (List.mem_of_getElem? (i := 119) rfl)) rfl
theorem aw_360 : (.classLink "TermMachine" 33 "java/lang/IllegalArgumentException" : Cond) ∈ AW := aw_tb (tb_2 (List.mem_of_getElem? (i := 120) rfl)) rfl
theorem aw_361 : (.instantiable "java/lang/IllegalArgumentException" 6 : Cond) ∈ AW := aw_tb (tb_2 (List.mem_of_getElem? (i := 121) rfl)) rfl
theorem tw_362 : (.castable "java/lang/IllegalArgumentException" "java/lang/IllegalArgumentException" : Cond) ∈ lw_tbl := List.mem_append_right _ (tb_2 (List.mem_of_getElem? (i := 122) rfl))
theorem tw_363 : (.declares ⟨"java/lang/RuntimeException", "<init>", "()V"⟩ : Cond) ∈ lw_tbl := List.mem_append_right _ (tb_2 (List.mem_of_getElem? (i := 123) rfl))
theorem tw_364 : (.declares ⟨"java/lang/RuntimeException", "<init>", "(Ljava/lang/String;)V"⟩ : Cond) ∈ lw_tbl := List.mem_append_right _ (tb_2 (List.mem_of_getElem? (i := 124) rfl))
theorem tw_365 : (.declares ⟨"java/lang/Exception", "<init>", "()V"⟩ : Cond) ∈ lw_tbl := List.mem_append_right _ (tb_2 (List.mem_of_getElem? (i := 125) rfl))
theorem tw_366 : (.declares ⟨"java/lang/Exception", "<init>", "(Ljava/lang/String;)V"⟩ : Cond) ∈ lw_tbl := List.mem_append_right _ (tb_2 (List.mem_of_getElem? (i := 126) rfl))
theorem tw_367 : (.declares ⟨"java/lang/Throwable", "<init>", "()V"⟩ : Cond) ∈ lw_tbl := List.mem_append_right _ (tb_2 (List.mem_of_getElem? (i := 127) rfl))
theorem tw_368 : (.declares ⟨"java/lang/Throwable", "<init>", "(Ljava/lang/String;)V"⟩ : Cond) ∈ lw_tbl := List.mem_append_right _ (tb_2 (List.mem_of_getElem? (i := 128) rfl))
theorem aw_369 : (.selects "java/lang/IllegalArgumentException" ⟨"java/lang/Throwable", "fillInStackTrace", "(I)Ljava/lang/Throwable;"⟩ ⟨"java/lang/Throwable", "fillInStackTrace", "(I)Ljava/lang/Throwable;"⟩ : Cond) ∈ AW := aw_tb (tb_2 (List.mem_of_getElem? (i := 129) rfl)) rfl
theorem aw_370 : (.selects "java/lang/IllegalArgumentException" ⟨"java/lang/Throwable", "fillInStackTrace", "()Ljava/lang/Throwable;"⟩ ⟨"java/lang/Throwable", "fillInStackTrace", "()Ljava/lang/Throwable;"⟩ : Cond) ∈ AW := aw_tb (tb_2 (List.mem_of_getElem? (i := 130) rfl)) rfl
theorem aw_371 : (.lays "java/lang/IllegalArgumentException" "java/lang/Throwable" "cause" "Ljava/lang/Throwable;" : Cond) ∈ AW := aw_tb (tb_2 (List.mem_of_getElem? (i := 131) rfl)) rfl
theorem aw_372 : (.lays "java/lang/Throwable" "java/lang/Throwable" "cause" "Ljava/lang/Throwable;" : Cond) ∈ AW := aw_tb (tb_2 (List.mem_of_getElem? (i := 132) rfl)) rfl
theorem aw_373 : (.lays "java/lang/IllegalArgumentException" "java/lang/Throwable" "stackTrace" "[Ljava/lang/StackTraceElement;" : Cond) ∈ AW := aw_tb (tb_2 (List.mem_of_getElem? (i := 133) rfl)) rfl
theorem aw_374 : (.lays "java/lang/Throwable" "java/lang/Throwable" "stackTrace" "[Ljava/lang/StackTraceElement;" : Cond) ∈ AW := aw_tb (tb_2 (List.mem_of_getElem? (i := 134) rfl)) rfl
theorem aw_375 : (.lays "java/lang/IllegalArgumentException" "java/lang/Throwable" "suppressedExceptions" "Ljava/util/List;" : Cond) ∈ AW := aw_tb (tb_2 (List.mem_of_getElem? (i := 135) rfl)) rfl
theorem aw_376 : (.lays "java/lang/Throwable" "java/lang/Throwable" "suppressedExceptions" "Ljava/util/List;" : Cond) ∈ AW := aw_tb (tb_2 (List.mem_of_getElem? (i := 136) rfl)) rfl
theorem aw_377 : (.lays "java/lang/IllegalArgumentException" "java/lang/Throwable" "detailMessage" "Ljava/lang/String;" : Cond) ∈ AW := aw_tb (tb_2 (List.mem_of_getElem? (i := 137) rfl)) rfl
theorem aw_378 : (.lays "java/lang/Throwable" "java/lang/Throwable" "detailMessage" "Ljava/lang/String;" : Cond) ∈ AW := aw_tb (tb_2 (List.mem_of_getElem? (i := 138) rfl)) rfl
theorem aw_379 : (.lays "java/lang/IllegalArgumentException" "java/lang/Throwable" "backtrace" "Ljava/lang/Object;" : Cond) ∈ AW := aw_tb (tb_2 (List.mem_of_getElem? (i := 139) rfl)) rfl
theorem aw_380 : (.lays "java/lang/Throwable" "java/lang/Throwable" "backtrace" "Ljava/lang/Object;" : Cond) ∈ AW := aw_tb (tb_2 (List.mem_of_getElem? (i := 140) rfl)) rfl
theorem aw_381 : (.fieldLink "java/lang/Throwable" 198 "java/lang/Throwable" "backtrace" "Ljava/lang/Object;" : Cond) ∈ AW := aw_tb (tb_2 (List.mem_of_getElem? (i := 141) rfl)) rfl
theorem aw_383 : (.instanceMethod ⟨"java/lang/Throwable", "<init>", "()V"⟩ : Cond) ∈ AW := aw_tb (tb_2 (List.mem_of_getElem? (i := 143) rfl)) rfl
theorem aw_384 : (.code ⟨"java/lang/Throwable", "<init>", "()V"⟩ prog_18_method_1_code 1 none : Cond) ∈ AW := aw_tb (tb_2 (List.mem_of_getElem? (i := 144) rfl)) rfl
theorem aw_385 : (.methodLink "java/lang/Throwable" 1 ⟨"java/lang/Object", "<init>", "()V"⟩ : Cond) ∈ AW := aw_tb (tb_2 (List.mem_of_getElem? (i := 145) rfl)) rfl
theorem aw_386 : (.fieldLink "java/lang/Throwable" 13 "java/lang/Throwable" "UNASSIGNED_STACK" "[Ljava/lang/StackTraceElement;" : Cond) ∈ AW := aw_tb (tb_2 (List.mem_of_getElem? (i := 146) rfl)) rfl
theorem aw_388 : (.fieldLink "java/lang/Throwable" 20 "java/lang/Throwable" "SUPPRESSED_SENTINEL" "Ljava/util/List;" : Cond) ∈ AW := aw_tb (tb_2 (List.mem_of_getElem? (i := 148) rfl)) rfl
theorem aw_390 : (.methodLink "java/lang/Throwable" 27 ⟨"java/lang/Throwable", "fillInStackTrace", "()Ljava/lang/Throwable;"⟩ : Cond) ∈ AW := aw_tb (tb_2 (List.mem_of_getElem? (i := 150) rfl)) rfl
theorem aw_391 : (.instanceMethod ⟨"java/lang/Throwable", "fillInStackTrace", "()Ljava/lang/Throwable;"⟩ : Cond) ∈ AW := aw_tb (tb_2 (List.mem_of_getElem? (i := 151) rfl)) rfl
theorem aw_392 : (.sameMethod "java/lang/Throwable" "java/lang/Throwable" "fillInStackTrace" "()Ljava/lang/Throwable;" : Cond) ∈ AW := aw_tb (tb_2 (List.mem_of_getElem? (i := 152) rfl)) rfl
theorem aw_393 : (.selects "java/lang/IllegalStateException" ⟨"java/lang/Throwable", "fillInStackTrace", "()Ljava/lang/Throwable;"⟩ ⟨"java/lang/Throwable", "fillInStackTrace", "()Ljava/lang/Throwable;"⟩ : Cond) ∈ AW := aw_tb (tb_2 (List.mem_of_getElem? (i := 153) rfl)) rfl
theorem aw_395 : (.methodLink "java/lang/Throwable" 202 ⟨"java/lang/Throwable", "fillInStackTrace", "(I)Ljava/lang/Throwable;"⟩ : Cond) ∈ AW := aw_tb (tb_2 (List.mem_of_getElem? (i := 155) rfl)) rfl
theorem aw_397 : (.instanceMethod ⟨"java/lang/Throwable", "fillInStackTrace", "(I)Ljava/lang/Throwable;"⟩ : Cond) ∈ AW := aw_tb (tb_2 (List.mem_of_getElem? (i := 157) rfl)) rfl
theorem aw_398 : (.instantiable "java/lang/Throwable" 6 : Cond) ∈ AW := aw_tb (tb_2 (List.mem_of_getElem? (i := 158) rfl)) rfl
theorem aw_401 : (.methodLink "TermMachine" 37 ⟨"java/lang/IllegalArgumentException", "<init>", "(Ljava/lang/String;)V"⟩ : Cond) ∈ AW := aw_tb (tb_2 (List.mem_of_getElem? (i := 161) rfl)) rfl
theorem aw_402 : (.instanceMethod ⟨"java/lang/IllegalArgumentException", "<init>", "(Ljava/lang/String;)V"⟩ : Cond) ∈ AW := aw_tb (tb_2 (List.mem_of_getElem? (i := 162) rfl)) rfl
theorem aw_403 : (.code ⟨"java/lang/IllegalArgumentException", "<init>", "(Ljava/lang/String;)V"⟩ prog_13_method_2_code 2 none : Cond) ∈ AW := aw_tb (tb_2 (List.mem_of_getElem? (i := 163) rfl)) rfl
theorem aw_404 : (.methodLink "java/lang/IllegalArgumentException" 7 ⟨"java/lang/RuntimeException", "<init>", "(Ljava/lang/String;)V"⟩ : Cond) ∈ AW := aw_tb (tb_2 (List.mem_of_getElem? (i := 164) rfl)) rfl
theorem aw_405 : (.instanceMethod ⟨"java/lang/RuntimeException", "<init>", "(Ljava/lang/String;)V"⟩ : Cond) ∈ AW := aw_tb (tb_2 (List.mem_of_getElem? (i := 165) rfl)) rfl
theorem aw_406 : (.code ⟨"java/lang/RuntimeException", "<init>", "(Ljava/lang/String;)V"⟩ prog_16_method_2_code 2 none : Cond) ∈ AW := aw_tb (tb_2 (List.mem_of_getElem? (i := 166) rfl)) rfl
theorem aw_407 : (.methodLink "java/lang/RuntimeException" 7 ⟨"java/lang/Exception", "<init>", "(Ljava/lang/String;)V"⟩ : Cond) ∈ AW := aw_tb (tb_2 (List.mem_of_getElem? (i := 167) rfl)) rfl
theorem aw_408 : (.instanceMethod ⟨"java/lang/Exception", "<init>", "(Ljava/lang/String;)V"⟩ : Cond) ∈ AW := aw_tb (tb_2 (List.mem_of_getElem? (i := 168) rfl)) rfl
theorem aw_409 : (.code ⟨"java/lang/Exception", "<init>", "(Ljava/lang/String;)V"⟩ prog_12_method_2_code 2 none : Cond) ∈ AW := aw_tb (tb_2 (List.mem_of_getElem? (i := 169) rfl)) rfl
theorem aw_410 : (.methodLink "java/lang/Exception" 7 ⟨"java/lang/Throwable", "<init>", "(Ljava/lang/String;)V"⟩ : Cond) ∈ AW := aw_tb (tb_2 (List.mem_of_getElem? (i := 170) rfl)) rfl
theorem aw_411 : (.instanceMethod ⟨"java/lang/Throwable", "<init>", "(Ljava/lang/String;)V"⟩ : Cond) ∈ AW := aw_tb (tb_2 (List.mem_of_getElem? (i := 171) rfl)) rfl
theorem aw_412 : (.code ⟨"java/lang/Throwable", "<init>", "(Ljava/lang/String;)V"⟩ prog_18_method_2_code 2 none : Cond) ∈ AW := aw_tb (tb_2 (List.mem_of_getElem? (i := 172) rfl)) rfl
theorem aw_413 : (.fieldLink "java/lang/Throwable" 198 "java/lang/Throwable" "backtrace" "Ljava/lang/Object;" : Cond) ∈ AW := aw_tb (tb_2 (List.mem_of_getElem? (i := 173) rfl)) rfl
theorem aw_414 : (.fieldLink "java/lang/Throwable" 31 "java/lang/Throwable" "detailMessage" "Ljava/lang/String;" : Cond) ∈ AW := aw_tb (tb_2 (List.mem_of_getElem? (i := 174) rfl)) rfl
theorem aw_415 : (.fieldLink "java/lang/Throwable" 7 "java/lang/Throwable" "cause" "Ljava/lang/Throwable;" : Cond) ∈ AW := aw_tb (tb_2 (List.mem_of_getElem? (i := 175) rfl)) rfl
theorem aw_416 : (.fieldLink "java/lang/Throwable" 17 "java/lang/Throwable" "stackTrace" "[Ljava/lang/StackTraceElement;" : Cond) ∈ AW := aw_tb (tb_2 (List.mem_of_getElem? (i := 176) rfl)) rfl
theorem aw_417 : (.fieldLink "java/lang/Throwable" 24 "java/lang/Throwable" "suppressedExceptions" "Ljava/util/List;" : Cond) ∈ AW := aw_tb (tb_2 (List.mem_of_getElem? (i := 177) rfl)) rfl
theorem aw_422 : (.lays "java/lang/IllegalArgumentException" "java/lang/Throwable" "depth" "I" : Cond) ∈ AW := aw_tb (tb_2 (List.mem_of_getElem? (i := 182) rfl)) rfl
theorem aw_426 : (.arrayClass .byte : Cond) ∈ AW := aw_tb (tb_2 (List.mem_of_getElem? (i := 186) rfl)) rfl
theorem aw_427 : (.classLink "TermMachine" 44 "java/lang/IllegalStateException" : Cond) ∈ AW := aw_tb (tb_2 (List.mem_of_getElem? (i := 187) rfl)) rfl
theorem aw_428 : (.instantiable "java/lang/IllegalStateException" 6 : Cond) ∈ AW := aw_tb (tb_2 (List.mem_of_getElem? (i := 188) rfl)) rfl
theorem tw_429 : (.castable "java/lang/IllegalStateException" "java/lang/IllegalStateException" : Cond) ∈ lw_tbl := List.mem_append_right _ (tb_2 (List.mem_of_getElem? (i := 189) rfl))
theorem aw_430 : (.selects "java/lang/IllegalStateException" ⟨"java/lang/Throwable", "fillInStackTrace", "(I)Ljava/lang/Throwable;"⟩ ⟨"java/lang/Throwable", "fillInStackTrace", "(I)Ljava/lang/Throwable;"⟩ : Cond) ∈ AW := aw_tb (tb_2 (List.mem_of_getElem? (i := 190) rfl)) rfl
theorem aw_431 : (.lays "java/lang/IllegalStateException" "java/lang/Throwable" "cause" "Ljava/lang/Throwable;" : Cond) ∈ AW := aw_tb (tb_2 (List.mem_of_getElem? (i := 191) rfl)) rfl
theorem aw_432 : (.lays "java/lang/IllegalStateException" "java/lang/Throwable" "stackTrace" "[Ljava/lang/StackTraceElement;" : Cond) ∈ AW := aw_tb (tb_2 (List.mem_of_getElem? (i := 192) rfl)) rfl
theorem aw_433 : (.lays "java/lang/IllegalStateException" "java/lang/Throwable" "suppressedExceptions" "Ljava/util/List;" : Cond) ∈ AW := aw_tb (tb_2 (List.mem_of_getElem? (i := 193) rfl)) rfl
theorem aw_434 : (.lays "java/lang/IllegalStateException" "java/lang/Throwable" "detailMessage" "Ljava/lang/String;" : Cond) ∈ AW := aw_tb (tb_2 (List.mem_of_getElem? (i := 194) rfl)) rfl
theorem aw_435 : (.lays "java/lang/IllegalStateException" "java/lang/Throwable" "backtrace" "Ljava/lang/Object;" : Cond) ∈ AW := aw_tb (tb_2 (List.mem_of_getElem? (i := 195) rfl)) rfl
theorem aw_437 : (.methodLink "TermMachine" 48 ⟨"java/lang/IllegalStateException", "<init>", "(Ljava/lang/String;)V"⟩ : Cond) ∈ AW := aw_tb (tb_2 (List.mem_of_getElem? (i := 197) rfl)) rfl
theorem aw_438 : (.instanceMethod ⟨"java/lang/IllegalStateException", "<init>", "(Ljava/lang/String;)V"⟩ : Cond) ∈ AW := aw_tb (tb_2 (List.mem_of_getElem? (i := 198) rfl)) rfl
theorem aw_439 : (.code ⟨"java/lang/IllegalStateException", "<init>", "(Ljava/lang/String;)V"⟩ prog_14_method_2_code 2 none : Cond) ∈ AW := aw_tb (tb_2 (List.mem_of_getElem? (i := 199) rfl)) rfl
theorem aw_440 : (.methodLink "java/lang/IllegalStateException" 7 ⟨"java/lang/RuntimeException", "<init>", "(Ljava/lang/String;)V"⟩ : Cond) ∈ AW := aw_tb (tb_2 (List.mem_of_getElem? (i := 200) rfl)) rfl
theorem aw_441 : (.lays "java/lang/IllegalStateException" "java/lang/Throwable" "depth" "I" : Cond) ∈ AW := aw_tb (tb_2 (List.mem_of_getElem? (i := 201) rfl)) rfl
theorem aw_443 : (.methodLink "TermMachine" 49 ⟨"TermMachine$Text", "add", "(I)V"⟩ : Cond) ∈ AW := aw_tb (tb_2 (List.mem_of_getElem? (i := 203) rfl)) rfl
theorem aw_444 : (.instanceMethod ⟨"TermMachine$Text", "add", "(I)V"⟩ : Cond) ∈ AW := aw_tb (tb_2 (List.mem_of_getElem? (i := 204) rfl)) rfl
theorem aw_445 : (.selects "TermMachine$Text" ⟨"TermMachine$Text", "add", "(I)V"⟩ ⟨"TermMachine$Text", "add", "(I)V"⟩ : Cond) ∈ AW := aw_tb (tb_2 (List.mem_of_getElem? (i := 205) rfl)) rfl
theorem aw_446 : (.code ⟨"TermMachine$Text", "add", "(I)V"⟩ prog_8_method_2_code 2 none : Cond) ∈ AW := aw_tb (tb_2 (List.mem_of_getElem? (i := 206) rfl)) rfl
theorem aw_447 : (.methodLink "TermMachineLaw" 43 ⟨"TermMachineLaw", "begin", "(LTermMachine;I[J)I"⟩ : Cond) ∈ AW := aw_tb (tb_2 (List.mem_of_getElem? (i := 207) rfl)) rfl
theorem aw_448 : (.static ⟨"TermMachineLaw", "begin", "(LTermMachine;I[J)I"⟩ : Cond) ∈ AW := aw_tb (tb_2 (List.mem_of_getElem? (i := 208) rfl)) rfl
theorem aw_450 : (.methodLink "TermMachineLaw" 17 ⟨"TermMachine", "begin", "(I)Z"⟩ : Cond) ∈ AW := aw_tb (tb_2 (List.mem_of_getElem? (i := 210) rfl)) rfl
theorem aw_451 : (.instanceMethod ⟨"TermMachine", "begin", "(I)Z"⟩ : Cond) ∈ AW := aw_tb (tb_2 (List.mem_of_getElem? (i := 211) rfl)) rfl
theorem aw_452 : (.selects "TermMachine" ⟨"TermMachine", "begin", "(I)Z"⟩ ⟨"TermMachine", "begin", "(I)Z"⟩ : Cond) ∈ AW := aw_tb (tb_2 (List.mem_of_getElem? (i := 212) rfl)) rfl
theorem aw_453 : (.code ⟨"TermMachine", "begin", "(I)Z"⟩ prog_1_method_4_code 2 (some .boolean) : Cond) ∈ AW := aw_tb (tb_2 (List.mem_of_getElem? (i := 213) rfl)) rfl
theorem aw_454 : (.constant "TermMachine" 66 100000 : Cond) ∈ AW := aw_tb (tb_2 (List.mem_of_getElem? (i := 214) rfl)) rfl
theorem aw_457 : (.methodLink "TermMachine" 71 ⟨"TermMachine$Work", "start", "(I)V"⟩ : Cond) ∈ AW := aw_tb (tb_2 (List.mem_of_getElem? (i := 217) rfl)) rfl
theorem aw_458 : (.instanceMethod ⟨"TermMachine$Work", "start", "(I)V"⟩ : Cond) ∈ AW := aw_tb (tb_2 (List.mem_of_getElem? (i := 218) rfl)) rfl
theorem aw_459 : (.selects "TermMachine$Work" ⟨"TermMachine$Work", "start", "(I)V"⟩ ⟨"TermMachine$Work", "start", "(I)V"⟩ : Cond) ∈ AW := aw_tb (tb_2 (List.mem_of_getElem? (i := 219) rfl)) rfl
theorem aw_460 : (.code ⟨"TermMachine$Work", "start", "(I)V"⟩ prog_9_method_3_code 2 none : Cond) ∈ AW := aw_tb (tb_2 (List.mem_of_getElem? (i := 220) rfl)) rfl
theorem aw_461 : (.methodLink "TermMachine$Work" 66 ⟨"TermMachine$Work", "forget", "()V"⟩ : Cond) ∈ AW := aw_tb (tb_2 (List.mem_of_getElem? (i := 221) rfl)) rfl
theorem aw_462 : (.methodLink "TermMachine$Work" 69 ⟨"TermMachine$Work", "compute", "(II)V"⟩ : Cond) ∈ AW := aw_tb (tb_2 (List.mem_of_getElem? (i := 222) rfl)) rfl
theorem aw_464 : (.instanceMethod ⟨"TermMachine$Work", "compute", "(II)V"⟩ : Cond) ∈ AW := aw_tb (tb_2 (List.mem_of_getElem? (i := 224) rfl)) rfl
theorem aw_465 : (.code ⟨"TermMachine$Work", "compute", "(II)V"⟩ prog_9_method_6_code 3 none : Cond) ∈ AW := aw_tb (tb_2 (List.mem_of_getElem? (i := 225) rfl)) rfl
theorem aw_466 : (.methodLink "TermMachineLaw" 47 ⟨"TermMachineLaw", "run", "(LTermMachine;I[J)I"⟩ : Cond) ∈ AW := aw_tb (tb_2 (List.mem_of_getElem? (i := 226) rfl)) rfl
theorem aw_467 : (.static ⟨"TermMachineLaw", "run", "(LTermMachine;I[J)I"⟩ : Cond) ∈ AW := aw_tb (tb_2 (List.mem_of_getElem? (i := 227) rfl)) rfl
theorem aw_469 : (.methodLink "TermMachineLaw" 21 ⟨"TermMachine", "run", "(I)I"⟩ : Cond) ∈ AW := aw_tb (tb_2 (List.mem_of_getElem? (i := 229) rfl)) rfl
theorem aw_470 : (.instanceMethod ⟨"TermMachine", "run", "(I)I"⟩ : Cond) ∈ AW := aw_tb (tb_2 (List.mem_of_getElem? (i := 230) rfl)) rfl
theorem aw_471 : (.selects "TermMachine" ⟨"TermMachine", "run", "(I)I"⟩ ⟨"TermMachine", "run", "(I)I"⟩ : Cond) ∈ AW := aw_tb (tb_2 (List.mem_of_getElem? (i := 231) rfl)) rfl
theorem aw_472 : (.code ⟨"TermMachine", "run", "(I)I"⟩ prog_1_method_5_code 3 (some .int) : Cond) ∈ AW := aw_tb (tb_2 (List.mem_of_getElem? (i := 232) rfl)) rfl
theorem aw_475 : (.methodLink "TermMachine" 81 ⟨"TermMachine$Work", "step", "(LTermMachine$Program;)V"⟩ : Cond) ∈ AW := aw_tb (tb_2 (List.mem_of_getElem? (i := 235) rfl)) rfl
theorem aw_476 : (.instanceMethod ⟨"TermMachine$Work", "step", "(LTermMachine$Program;)V"⟩ : Cond) ∈ AW := aw_tb (tb_2 (List.mem_of_getElem? (i := 236) rfl)) rfl
theorem aw_477 : (.selects "TermMachine$Work" ⟨"TermMachine$Work", "step", "(LTermMachine$Program;)V"⟩ ⟨"TermMachine$Work", "step", "(LTermMachine$Program;)V"⟩ : Cond) ∈ AW := aw_tb (tb_2 (List.mem_of_getElem? (i := 237) rfl)) rfl
theorem aw_478 : (.code ⟨"TermMachine$Work", "step", "(LTermMachine$Program;)V"⟩ prog_9_method_4_code 4 none : Cond) ∈ AW := aw_tb (tb_2 (List.mem_of_getElem? (i := 238) rfl)) rfl
theorem aw_479 : (.methodLink "TermMachine$Work" 73 ⟨"TermMachine$Work", "operates", "()Z"⟩ : Cond) ∈ AW := aw_tb (tb_2 (List.mem_of_getElem? (i := 239) rfl)) rfl
theorem aw_481 : (.instanceMethod ⟨"TermMachine$Work", "operates", "()Z"⟩ : Cond) ∈ AW := aw_tb (tb_3 (List.mem_of_getElem? (i := 1) rfl)) rfl
theorem aw_482 : (.code ⟨"TermMachine$Work", "operates", "()Z"⟩ prog_9_method_5_code 1 (some .boolean) : Cond) ∈ AW := aw_tb (tb_3 (List.mem_of_getElem? (i := 2) rfl)) rfl
theorem aw_483 : (.methodLink "TermMachine$Work" 107 ⟨"TermMachine$Frames", "latestKind", "()I"⟩ : Cond) ∈ AW := aw_tb (tb_3 (List.mem_of_getElem? (i := 3) rfl)) rfl
theorem aw_484 : (.instanceMethod ⟨"TermMachine$Frames", "latestKind", "()I"⟩ : Cond) ∈ AW := aw_tb (tb_3 (List.mem_of_getElem? (i := 4) rfl)) rfl
theorem aw_485 : (.selects "TermMachine$Frames" ⟨"TermMachine$Frames", "latestKind", "()I"⟩ ⟨"TermMachine$Frames", "latestKind", "()I"⟩ : Cond) ∈ AW := aw_tb (tb_3 (List.mem_of_getElem? (i := 5) rfl)) rfl
theorem aw_486 : (.code ⟨"TermMachine$Frames", "latestKind", "()I"⟩ prog_3_method_5_code 1 (some .int) : Cond) ∈ AW := aw_tb (tb_3 (List.mem_of_getElem? (i := 6) rfl)) rfl
theorem tw_487 : (.methodLinkNest "TermMachine$Frames" 25 ⟨"TermMachine", "at", "([II)I"⟩ "TermMachine" : Cond) ∈ lw_tbl := List.mem_append_right _ (tb_3 (List.mem_of_getElem? (i := 7) rfl))
theorem aw_488 : (.methodLink "TermMachine$Work" 77 ⟨"TermMachine$Frames", "latestPart", "()I"⟩ : Cond) ∈ AW := aw_tb (tb_3 (List.mem_of_getElem? (i := 8) rfl)) rfl
theorem aw_489 : (.instanceMethod ⟨"TermMachine$Frames", "latestPart", "()I"⟩ : Cond) ∈ AW := aw_tb (tb_3 (List.mem_of_getElem? (i := 9) rfl)) rfl
theorem aw_490 : (.selects "TermMachine$Frames" ⟨"TermMachine$Frames", "latestPart", "()I"⟩ ⟨"TermMachine$Frames", "latestPart", "()I"⟩ : Cond) ∈ AW := aw_tb (tb_3 (List.mem_of_getElem? (i := 10) rfl)) rfl
theorem aw_491 : (.code ⟨"TermMachine$Frames", "latestPart", "()I"⟩ prog_3_method_6_code 1 (some .int) : Cond) ∈ AW := aw_tb (tb_3 (List.mem_of_getElem? (i := 11) rfl)) rfl
theorem aw_492 : (.methodLink "TermMachine$Work" 110 ⟨"TermMachine$Store", "wantsOneArgument", "(I)Z"⟩ : Cond) ∈ AW := aw_tb (tb_3 (List.mem_of_getElem? (i := 12) rfl)) rfl
theorem aw_493 : (.instanceMethod ⟨"TermMachine$Store", "wantsOneArgument", "(I)Z"⟩ : Cond) ∈ AW := aw_tb (tb_3 (List.mem_of_getElem? (i := 13) rfl)) rfl
theorem aw_494 : (.selects "TermMachine$Store" ⟨"TermMachine$Store", "wantsOneArgument", "(I)Z"⟩ ⟨"TermMachine$Store", "wantsOneArgument", "(I)Z"⟩ : Cond) ∈ AW := aw_tb (tb_3 (List.mem_of_getElem? (i := 14) rfl)) rfl
theorem aw_495 : (.code ⟨"TermMachine$Store", "wantsOneArgument", "(I)Z"⟩ prog_6_method_8_code 3 (some .boolean) : Cond) ∈ AW := aw_tb (tb_3 (List.mem_of_getElem? (i := 15) rfl)) rfl
theorem aw_496 : (.methodLink "TermMachine$Store" 47 ⟨"TermMachine$Store", "operationOf", "(I)I"⟩ : Cond) ∈ AW := aw_tb (tb_3 (List.mem_of_getElem? (i := 16) rfl)) rfl
theorem aw_497 : (.instanceMethod ⟨"TermMachine$Store", "operationOf", "(I)I"⟩ : Cond) ∈ AW := aw_tb (tb_3 (List.mem_of_getElem? (i := 17) rfl)) rfl
theorem aw_498 : (.selects "TermMachine$Store" ⟨"TermMachine$Store", "operationOf", "(I)I"⟩ ⟨"TermMachine$Store", "operationOf", "(I)I"⟩ : Cond) ∈ AW := aw_tb (tb_3 (List.mem_of_getElem? (i := 18) rfl)) rfl
theorem aw_499 : (.code ⟨"TermMachine$Store", "operationOf", "(I)I"⟩ prog_6_method_5_code 2 (some .int) : Cond) ∈ AW := aw_tb (tb_3 (List.mem_of_getElem? (i := 19) rfl)) rfl
theorem tw_500 : (.methodLinkNest "TermMachine$Store" 32 ⟨"TermMachine", "longAt", "([JI)J"⟩ "TermMachine" : Cond) ∈ lw_tbl := List.mem_append_right _ (tb_3 (List.mem_of_getElem? (i := 20) rfl))
theorem aw_501 : (.static ⟨"TermMachine", "longAt", "([JI)J"⟩ : Cond) ∈ AW := aw_tb (tb_3 (List.mem_of_getElem? (i := 21) rfl)) rfl
theorem aw_502 : (.code ⟨"TermMachine", "longAt", "([JI)J"⟩ prog_1_method_9_code 2 (some .long) : Cond) ∈ AW := aw_tb (tb_3 (List.mem_of_getElem? (i := 22) rfl)) rfl
theorem aw_503 : (.methodLink "TermMachine$Store" 51 ⟨"TermMachine$Store", "wantsArgument", "(I)Z"⟩ : Cond) ∈ AW := aw_tb (tb_3 (List.mem_of_getElem? (i := 23) rfl)) rfl
theorem aw_504 : (.instanceMethod ⟨"TermMachine$Store", "wantsArgument", "(I)Z"⟩ : Cond) ∈ AW := aw_tb (tb_3 (List.mem_of_getElem? (i := 24) rfl)) rfl
theorem aw_505 : (.selects "TermMachine$Store" ⟨"TermMachine$Store", "wantsArgument", "(I)Z"⟩ ⟨"TermMachine$Store", "wantsArgument", "(I)Z"⟩ : Cond) ∈ AW := aw_tb (tb_3 (List.mem_of_getElem? (i := 25) rfl)) rfl
theorem aw_506 : (.code ⟨"TermMachine$Store", "wantsArgument", "(I)Z"⟩ prog_6_method_7_code 2 (some .boolean) : Cond) ∈ AW := aw_tb (tb_3 (List.mem_of_getElem? (i := 26) rfl)) rfl
theorem tw_507 : (.methodLinkNest "TermMachine$Store" 40 ⟨"TermMachine", "at", "([II)I"⟩ "TermMachine" : Cond) ∈ lw_tbl := List.mem_append_right _ (tb_3 (List.mem_of_getElem? (i := 27) rfl))
theorem tw_508 : (.fieldLinkNest "TermMachine$Store" 44 "TermMachine" "FORCES" "[I" "TermMachine" : Cond) ∈ lw_tbl := List.mem_append_right _ (tb_3 (List.mem_of_getElem? (i := 28) rfl))
theorem tw_510 : (.fieldLinkNest "TermMachine$Store" 55 "TermMachine" "ARGUMENTS" "[I" "TermMachine" : Cond) ∈ lw_tbl := List.mem_append_right _ (tb_3 (List.mem_of_getElem? (i := 30) rfl))
theorem aw_512 : (.methodLink "TermMachine$Work" 81 ⟨"TermMachine$Deed", "prepare", "(LTermMachine$Store;II)V"⟩ : Cond) ∈ AW := aw_tb (tb_3 (List.mem_of_getElem? (i := 32) rfl)) rfl
theorem aw_513 : (.instanceMethod ⟨"TermMachine$Deed", "prepare", "(LTermMachine$Store;II)V"⟩ : Cond) ∈ AW := aw_tb (tb_3 (List.mem_of_getElem? (i := 33) rfl)) rfl
theorem aw_514 : (.selects "TermMachine$Deed" ⟨"TermMachine$Deed", "prepare", "(LTermMachine$Store;II)V"⟩ ⟨"TermMachine$Deed", "prepare", "(LTermMachine$Store;II)V"⟩ : Cond) ∈ AW := aw_tb (tb_3 (List.mem_of_getElem? (i := 34) rfl)) rfl
theorem aw_515 : (.code ⟨"TermMachine$Deed", "prepare", "(LTermMachine$Store;II)V"⟩ prog_2_method_2_code 7 none : Cond) ∈ AW := aw_tb (tb_3 (List.mem_of_getElem? (i := 35) rfl)) rfl
theorem aw_516 : (.methodLink "TermMachine$Deed" 36 ⟨"TermMachine$Store", "operationOf", "(I)I"⟩ : Cond) ∈ AW := aw_tb (tb_3 (List.mem_of_getElem? (i := 36) rfl)) rfl
theorem tw_517 : (.fieldLinkNest "TermMachine$Deed" 42 "TermMachine" "ARGUMENTS" "[I" "TermMachine" : Cond) ∈ lw_tbl := List.mem_append_right _ (tb_3 (List.mem_of_getElem? (i := 37) rfl))
theorem tw_518 : (.methodLinkNest "TermMachine$Deed" 45 ⟨"TermMachine", "at", "([II)I"⟩ "TermMachine" : Cond) ∈ lw_tbl := List.mem_append_right _ (tb_3 (List.mem_of_getElem? (i := 38) rfl))
theorem aw_519 : (.methodLink "TermMachine$Work" 85 ⟨"TermMachine$Deed", "cost", "(LTermMachine$Store;)I"⟩ : Cond) ∈ AW := aw_tb (tb_3 (List.mem_of_getElem? (i := 39) rfl)) rfl
theorem aw_520 : (.instanceMethod ⟨"TermMachine$Deed", "cost", "(LTermMachine$Store;)I"⟩ : Cond) ∈ AW := aw_tb (tb_3 (List.mem_of_getElem? (i := 40) rfl)) rfl
theorem aw_521 : (.selects "TermMachine$Deed" ⟨"TermMachine$Deed", "cost", "(LTermMachine$Store;)I"⟩ ⟨"TermMachine$Deed", "cost", "(LTermMachine$Store;)I"⟩ : Cond) ∈ AW := aw_tb (tb_3 (List.mem_of_getElem? (i := 41) rfl)) rfl
theorem aw_522 : (.code ⟨"TermMachine$Deed", "cost", "(LTermMachine$Store;)I"⟩ prog_2_method_3_code 5 (some .int) : Cond) ∈ AW := aw_tb (tb_3 (List.mem_of_getElem? (i := 42) rfl)) rfl
theorem tw_523 : (.fieldLinkNest "TermMachine$Deed" 55 "TermMachine" "COSTS" "[I" "TermMachine" : Cond) ∈ lw_tbl := List.mem_append_right _ (tb_3 (List.mem_of_getElem? (i := 43) rfl))
theorem tw_525 : (.methodLinkNest "TermMachine$Deed" 63 ⟨"TermMachine", "longAt", "([JI)J"⟩ "TermMachine" : Cond) ∈ lw_tbl := List.mem_append_right _ (tb_3 (List.mem_of_getElem? (i := 45) rfl))
theorem aw_526 : (.methodLink "TermMachine$Deed" 67 ⟨"TermMachine$Packed", "length", "(J)I"⟩ : Cond) ∈ AW := aw_tb (tb_3 (List.mem_of_getElem? (i := 46) rfl)) rfl
theorem aw_527 : (.static ⟨"TermMachine$Packed", "length", "(J)I"⟩ : Cond) ∈ AW := aw_tb (tb_3 (List.mem_of_getElem? (i := 47) rfl)) rfl
theorem aw_528 : (.code ⟨"TermMachine$Packed", "length", "(J)I"⟩ prog_4_method_3_code 2 (some .int) : Cond) ∈ AW := aw_tb (tb_3 (List.mem_of_getElem? (i := 48) rfl)) rfl
theorem aw_529 : (.methodLink "TermMachine$Work" 89 ⟨"TermMachine$Work", "end", "(I)V"⟩ : Cond) ∈ AW := aw_tb (tb_3 (List.mem_of_getElem? (i := 49) rfl)) rfl
theorem aw_531 : (.instanceMethod ⟨"TermMachine$Work", "end", "(I)V"⟩ : Cond) ∈ AW := aw_tb (tb_3 (List.mem_of_getElem? (i := 51) rfl)) rfl
theorem aw_532 : (.code ⟨"TermMachine$Work", "end", "(I)V"⟩ prog_9_method_8_code 2 none : Cond) ∈ AW := aw_tb (tb_3 (List.mem_of_getElem? (i := 52) rfl)) rfl
theorem aw_533 : (.methodLink "TermMachine$Work" 93 ⟨"TermMachine$Work", "stepComputing", "(LTermMachine$Program;)V"⟩ : Cond) ∈ AW := aw_tb (tb_3 (List.mem_of_getElem? (i := 53) rfl)) rfl
theorem aw_535 : (.instanceMethod ⟨"TermMachine$Work", "stepComputing", "(LTermMachine$Program;)V"⟩ : Cond) ∈ AW := aw_tb (tb_3 (List.mem_of_getElem? (i := 55) rfl)) rfl
theorem aw_536 : (.code ⟨"TermMachine$Work", "stepComputing", "(LTermMachine$Program;)V"⟩ prog_9_method_9_code 2 none : Cond) ∈ AW := aw_tb (tb_3 (List.mem_of_getElem? (i := 56) rfl)) rfl
theorem tw_537 : (.methodLinkNest "TermMachine$Work" 120 ⟨"TermMachine", "at", "([II)I"⟩ "TermMachine" : Cond) ∈ lw_tbl := List.mem_append_right _ (tb_3 (List.mem_of_getElem? (i := 57) rfl))
theorem tw_538 : (.methodLinkNest "TermMachine$Work" 128 ⟨"TermMachine", "longAt", "([JI)J"⟩ "TermMachine" : Cond) ∈ lw_tbl := List.mem_append_right _ (tb_3 (List.mem_of_getElem? (i := 58) rfl))
theorem aw_539 : (.methodLink "TermMachine$Work" 132 ⟨"TermMachine$Store", "valueAt", "(II)I"⟩ : Cond) ∈ AW := aw_tb (tb_3 (List.mem_of_getElem? (i := 59) rfl)) rfl
theorem aw_540 : (.instanceMethod ⟨"TermMachine$Store", "valueAt", "(II)I"⟩ : Cond) ∈ AW := aw_tb (tb_3 (List.mem_of_getElem? (i := 60) rfl)) rfl
theorem aw_541 : (.selects "TermMachine$Store" ⟨"TermMachine$Store", "valueAt", "(II)I"⟩ ⟨"TermMachine$Store", "valueAt", "(II)I"⟩ : Cond) ∈ AW := aw_tb (tb_3 (List.mem_of_getElem? (i := 61) rfl)) rfl
theorem aw_542 : (.code ⟨"TermMachine$Store", "valueAt", "(II)I"⟩ prog_6_method_9_code 5 (some .int) : Cond) ∈ AW := aw_tb (tb_3 (List.mem_of_getElem? (i := 62) rfl)) rfl
theorem aw_543 : (.methodLink "TermMachine$Work" 136 ⟨"TermMachine$Work", "giveBack", "(I)V"⟩ : Cond) ∈ AW := aw_tb (tb_3 (List.mem_of_getElem? (i := 63) rfl)) rfl
theorem aw_545 : (.instanceMethod ⟨"TermMachine$Work", "giveBack", "(I)V"⟩ : Cond) ∈ AW := aw_tb (tb_3 (List.mem_of_getElem? (i := 65) rfl)) rfl
theorem aw_546 : (.code ⟨"TermMachine$Work", "giveBack", "(I)V"⟩ prog_9_method_7_code 2 none : Cond) ∈ AW := aw_tb (tb_3 (List.mem_of_getElem? (i := 66) rfl)) rfl
theorem aw_547 : (.methodLink "TermMachine$Work" 142 ⟨"TermMachine$Work", "goInto", "(LTermMachine$Program;II)V"⟩ : Cond) ∈ AW := aw_tb (tb_3 (List.mem_of_getElem? (i := 67) rfl)) rfl
theorem aw_549 : (.instanceMethod ⟨"TermMachine$Work", "goInto", "(LTermMachine$Program;II)V"⟩ : Cond) ∈ AW := aw_tb (tb_3 (List.mem_of_getElem? (i := 69) rfl)) rfl
theorem aw_550 : (.code ⟨"TermMachine$Work", "goInto", "(LTermMachine$Program;II)V"⟩ prog_9_method_10_code 4 none : Cond) ∈ AW := aw_tb (tb_3 (List.mem_of_getElem? (i := 70) rfl)) rfl
theorem aw_551 : (.methodLink "TermMachine$Work" 149 ⟨"TermMachine$Frames", "hasRoom", "()Z"⟩ : Cond) ∈ AW := aw_tb (tb_3 (List.mem_of_getElem? (i := 71) rfl)) rfl
theorem aw_552 : (.instanceMethod ⟨"TermMachine$Frames", "hasRoom", "()Z"⟩ : Cond) ∈ AW := aw_tb (tb_3 (List.mem_of_getElem? (i := 72) rfl)) rfl
theorem aw_553 : (.selects "TermMachine$Frames" ⟨"TermMachine$Frames", "hasRoom", "()Z"⟩ ⟨"TermMachine$Frames", "hasRoom", "()Z"⟩ : Cond) ∈ AW := aw_tb (tb_3 (List.mem_of_getElem? (i := 73) rfl)) rfl
theorem aw_554 : (.code ⟨"TermMachine$Frames", "hasRoom", "()Z"⟩ prog_3_method_2_code 1 (some .boolean) : Cond) ∈ AW := aw_tb (tb_3 (List.mem_of_getElem? (i := 74) rfl)) rfl
theorem aw_555 : (.methodLink "TermMachine$Work" 152 ⟨"TermMachine$Frames", "add", "(III)V"⟩ : Cond) ∈ AW := aw_tb (tb_3 (List.mem_of_getElem? (i := 75) rfl)) rfl
theorem aw_556 : (.instanceMethod ⟨"TermMachine$Frames", "add", "(III)V"⟩ : Cond) ∈ AW := aw_tb (tb_3 (List.mem_of_getElem? (i := 76) rfl)) rfl
theorem aw_557 : (.selects "TermMachine$Frames" ⟨"TermMachine$Frames", "add", "(III)V"⟩ ⟨"TermMachine$Frames", "add", "(III)V"⟩ : Cond) ∈ AW := aw_tb (tb_3 (List.mem_of_getElem? (i := 77) rfl)) rfl
theorem aw_558 : (.code ⟨"TermMachine$Frames", "add", "(III)V"⟩ prog_3_method_3_code 4 none : Cond) ∈ AW := aw_tb (tb_3 (List.mem_of_getElem? (i := 78) rfl)) rfl
theorem aw_559 : (.methodLink "TermMachine$Work" 146 ⟨"TermMachine$Work", "makeValue", "(LTermMachine$Program;)V"⟩ : Cond) ∈ AW := aw_tb (tb_3 (List.mem_of_getElem? (i := 79) rfl)) rfl
theorem aw_561 : (.instanceMethod ⟨"TermMachine$Work", "makeValue", "(LTermMachine$Program;)V"⟩ : Cond) ∈ AW := aw_tb (tb_3 (List.mem_of_getElem? (i := 81) rfl)) rfl
theorem aw_562 : (.code ⟨"TermMachine$Work", "makeValue", "(LTermMachine$Program;)V"⟩ prog_9_method_11_code 5 none : Cond) ∈ AW := aw_tb (tb_3 (List.mem_of_getElem? (i := 82) rfl)) rfl
theorem aw_563 : (.methodLink "TermMachine$Work" 159 ⟨"TermMachine$Store", "hasRoom", "(I)Z"⟩ : Cond) ∈ AW := aw_tb (tb_3 (List.mem_of_getElem? (i := 83) rfl)) rfl
theorem aw_564 : (.instanceMethod ⟨"TermMachine$Store", "hasRoom", "(I)Z"⟩ : Cond) ∈ AW := aw_tb (tb_3 (List.mem_of_getElem? (i := 84) rfl)) rfl
theorem aw_565 : (.selects "TermMachine$Store" ⟨"TermMachine$Store", "hasRoom", "(I)Z"⟩ ⟨"TermMachine$Store", "hasRoom", "(I)Z"⟩ : Cond) ∈ AW := aw_tb (tb_3 (List.mem_of_getElem? (i := 85) rfl)) rfl
theorem aw_566 : (.code ⟨"TermMachine$Store", "hasRoom", "(I)Z"⟩ prog_6_method_2_code 2 (some .boolean) : Cond) ∈ AW := aw_tb (tb_3 (List.mem_of_getElem? (i := 86) rfl)) rfl
theorem aw_567 : (.methodLink "TermMachine$Work" 161 ⟨"TermMachine$Store", "add", "(IJII)I"⟩ : Cond) ∈ AW := aw_tb (tb_3 (List.mem_of_getElem? (i := 87) rfl)) rfl
theorem aw_568 : (.instanceMethod ⟨"TermMachine$Store", "add", "(IJII)I"⟩ : Cond) ∈ AW := aw_tb (tb_3 (List.mem_of_getElem? (i := 88) rfl)) rfl
theorem aw_569 : (.selects "TermMachine$Store" ⟨"TermMachine$Store", "add", "(IJII)I"⟩ ⟨"TermMachine$Store", "add", "(IJII)I"⟩ : Cond) ∈ AW := aw_tb (tb_3 (List.mem_of_getElem? (i := 89) rfl)) rfl
theorem aw_570 : (.code ⟨"TermMachine$Store", "add", "(IJII)I"⟩ prog_6_method_3_code 6 (some .int) : Cond) ∈ AW := aw_tb (tb_3 (List.mem_of_getElem? (i := 90) rfl)) rfl
theorem aw_571 : (.methodLink "TermMachine$Work" 97 ⟨"TermMachine$Work", "stepOperating", "()V"⟩ : Cond) ∈ AW := aw_tb (tb_3 (List.mem_of_getElem? (i := 91) rfl)) rfl
theorem aw_573 : (.instanceMethod ⟨"TermMachine$Work", "stepOperating", "()V"⟩ : Cond) ∈ AW := aw_tb (tb_3 (List.mem_of_getElem? (i := 93) rfl)) rfl
theorem aw_574 : (.code ⟨"TermMachine$Work", "stepOperating", "()V"⟩ prog_9_method_19_code 1 none : Cond) ∈ AW := aw_tb (tb_3 (List.mem_of_getElem? (i := 94) rfl)) rfl
theorem aw_575 : (.methodLink "TermMachine$Work" 204 ⟨"TermMachine$Deed", "perform", "(LTermMachine$Store;)V"⟩ : Cond) ∈ AW := aw_tb (tb_3 (List.mem_of_getElem? (i := 95) rfl)) rfl
theorem aw_576 : (.instanceMethod ⟨"TermMachine$Deed", "perform", "(LTermMachine$Store;)V"⟩ : Cond) ∈ AW := aw_tb (tb_3 (List.mem_of_getElem? (i := 96) rfl)) rfl
theorem aw_577 : (.selects "TermMachine$Deed" ⟨"TermMachine$Deed", "perform", "(LTermMachine$Store;)V"⟩ ⟨"TermMachine$Deed", "perform", "(LTermMachine$Store;)V"⟩ : Cond) ∈ AW := aw_tb (tb_3 (List.mem_of_getElem? (i := 97) rfl)) rfl
theorem aw_578 : (.code ⟨"TermMachine$Deed", "perform", "(LTermMachine$Store;)V"⟩ prog_2_method_5_code 6 none : Cond) ∈ AW := aw_tb (tb_3 (List.mem_of_getElem? (i := 98) rfl)) rfl
theorem aw_579 : (.methodLink "TermMachine$Deed" 73 ⟨"TermMachine$Deed", "fits", "(LTermMachine$Store;)Z"⟩ : Cond) ∈ AW := aw_tb (tb_3 (List.mem_of_getElem? (i := 99) rfl)) rfl
theorem aw_581 : (.instanceMethod ⟨"TermMachine$Deed", "fits", "(LTermMachine$Store;)Z"⟩ : Cond) ∈ AW := aw_tb (tb_3 (List.mem_of_getElem? (i := 101) rfl)) rfl
theorem aw_582 : (.code ⟨"TermMachine$Deed", "fits", "(LTermMachine$Store;)Z"⟩ prog_2_method_6_code 4 (some .boolean) : Cond) ∈ AW := aw_tb (tb_3 (List.mem_of_getElem? (i := 102) rfl)) rfl
theorem tw_583 : (.fieldLinkNest "TermMachine$Deed" 84 "TermMachine" "WANTED" "[I" "TermMachine" : Cond) ∈ lw_tbl := List.mem_append_right _ (tb_3 (List.mem_of_getElem? (i := 103) rfl))
theorem aw_585 : (.methodLink "TermMachine$Deed" 77 ⟨"TermMachine$Deed", "workBytes", "(JJ)V"⟩ : Cond) ∈ AW := aw_tb (tb_3 (List.mem_of_getElem? (i := 105) rfl)) rfl
theorem aw_587 : (.instanceMethod ⟨"TermMachine$Deed", "workBytes", "(JJ)V"⟩ : Cond) ∈ AW := aw_tb (tb_3 (List.mem_of_getElem? (i := 107) rfl)) rfl
theorem aw_588 : (.code ⟨"TermMachine$Deed", "workBytes", "(JJ)V"⟩ prog_2_method_8_code 6 none : Cond) ∈ AW := aw_tb (tb_3 (List.mem_of_getElem? (i := 108) rfl)) rfl
theorem aw_589 : (.methodLink "TermMachine$Deed" 95 ⟨"TermMachine$Packed", "joined", "(JJ)J"⟩ : Cond) ∈ AW := aw_tb (tb_3 (List.mem_of_getElem? (i := 109) rfl)) rfl
theorem aw_590 : (.static ⟨"TermMachine$Packed", "joined", "(JJ)J"⟩ : Cond) ∈ AW := aw_tb (tb_3 (List.mem_of_getElem? (i := 110) rfl)) rfl
theorem aw_591 : (.code ⟨"TermMachine$Packed", "joined", "(JJ)J"⟩ prog_4_method_5_code 7 (some .long) : Cond) ∈ AW := aw_tb (tb_3 (List.mem_of_getElem? (i := 111) rfl)) rfl
theorem aw_592 : (.methodLink "TermMachine$Packed" 11 ⟨"TermMachine$Packed", "length", "(J)I"⟩ : Cond) ∈ AW := aw_tb (tb_3 (List.mem_of_getElem? (i := 112) rfl)) rfl
theorem aw_593 : (.constantLong "TermMachine$Packed" 15 72057594037927935 : Cond) ∈ AW := aw_tb (tb_3 (List.mem_of_getElem? (i := 113) rfl)) rfl
theorem aw_594 : (.methodLink "TermMachine$Packed" 17 ⟨"TermMachine$Packed", "of", "(IJ)J"⟩ : Cond) ∈ AW := aw_tb (tb_3 (List.mem_of_getElem? (i := 114) rfl)) rfl
theorem aw_595 : (.methodLink "TermMachine$Deed" 99 ⟨"TermMachine$Deed", "give", "(IJ)V"⟩ : Cond) ∈ AW := aw_tb (tb_3 (List.mem_of_getElem? (i := 115) rfl)) rfl
theorem aw_597 : (.instanceMethod ⟨"TermMachine$Deed", "give", "(IJ)V"⟩ : Cond) ∈ AW := aw_tb (tb_3 (List.mem_of_getElem? (i := 117) rfl)) rfl
theorem aw_598 : (.code ⟨"TermMachine$Deed", "give", "(IJ)V"⟩ prog_2_method_9_code 4 none : Cond) ∈ AW := aw_tb (tb_3 (List.mem_of_getElem? (i := 118) rfl)) rfl
theorem aw_599 : (.methodLink "TermMachine$Deed" 103 ⟨"TermMachine$Packed", "byteAt", "(JII)I"⟩ : Cond) ∈ AW := aw_tb (tb_3 (List.mem_of_getElem? (i := 119) rfl)) rfl
theorem aw_600 : (.static ⟨"TermMachine$Packed", "byteAt", "(JII)I"⟩ : Cond) ∈ AW := aw_tb (tb_3 (List.mem_of_getElem? (i := 120) rfl)) rfl
theorem aw_601 : (.code ⟨"TermMachine$Packed", "byteAt", "(JII)I"⟩ prog_4_method_4_code 4 (some .int) : Cond) ∈ AW := aw_tb (tb_3 (List.mem_of_getElem? (i := 121) rfl)) rfl
theorem aw_602 : (.methodLink "TermMachine$Deed" 91 ⟨"TermMachine$Deed", "giveTruth", "(Z)V"⟩ : Cond) ∈ AW := aw_tb (tb_3 (List.mem_of_getElem? (i := 122) rfl)) rfl
theorem aw_604 : (.instanceMethod ⟨"TermMachine$Deed", "giveTruth", "(Z)V"⟩ : Cond) ∈ AW := aw_tb (tb_3 (List.mem_of_getElem? (i := 124) rfl)) rfl
theorem aw_605 : (.code ⟨"TermMachine$Deed", "giveTruth", "(Z)V"⟩ prog_2_method_10_code 2 none : Cond) ∈ AW := aw_tb (tb_3 (List.mem_of_getElem? (i := 125) rfl)) rfl
theorem aw_606 : (.methodLink "TermMachine$Deed" 81 ⟨"TermMachine$Deed", "workNumbers", "(JJ)V"⟩ : Cond) ∈ AW := aw_tb (tb_3 (List.mem_of_getElem? (i := 126) rfl)) rfl
theorem aw_608 : (.instanceMethod ⟨"TermMachine$Deed", "workNumbers", "(JJ)V"⟩ : Cond) ∈ AW := aw_tb (tb_3 (List.mem_of_getElem? (i := 128) rfl)) rfl
theorem aw_609 : (.code ⟨"TermMachine$Deed", "workNumbers", "(JJ)V"⟩ prog_2_method_7_code 5 none : Cond) ∈ AW := aw_tb (tb_3 (List.mem_of_getElem? (i := 129) rfl)) rfl
theorem aw_610 : (.methodLink "TermMachine$Deed" 87 ⟨"TermMachine$Deed", "giveNumber", "(J)V"⟩ : Cond) ∈ AW := aw_tb (tb_3 (List.mem_of_getElem? (i := 130) rfl)) rfl
theorem aw_612 : (.instanceMethod ⟨"TermMachine$Deed", "giveNumber", "(J)V"⟩ : Cond) ∈ AW := aw_tb (tb_3 (List.mem_of_getElem? (i := 132) rfl)) rfl
theorem aw_613 : (.code ⟨"TermMachine$Deed", "giveNumber", "(J)V"⟩ prog_2_method_11_code 3 none : Cond) ∈ AW := aw_tb (tb_3 (List.mem_of_getElem? (i := 133) rfl)) rfl
theorem aw_614 : (.constantLong "TermMachine$Deed" 107 (-2147483648) : Cond) ∈ AW := aw_tb (tb_3 (List.mem_of_getElem? (i := 134) rfl)) rfl
theorem aw_615 : (.constantLong "TermMachine$Deed" 109 2147483647 : Cond) ∈ AW := aw_tb (tb_3 (List.mem_of_getElem? (i := 135) rfl)) rfl
theorem aw_616 : (.methodLink "TermMachine$Work" 208 ⟨"TermMachine$Deed", "valuesMade", "()I"⟩ : Cond) ∈ AW := aw_tb (tb_3 (List.mem_of_getElem? (i := 136) rfl)) rfl
theorem aw_617 : (.instanceMethod ⟨"TermMachine$Deed", "valuesMade", "()I"⟩ : Cond) ∈ AW := aw_tb (tb_3 (List.mem_of_getElem? (i := 137) rfl)) rfl
theorem aw_618 : (.selects "TermMachine$Deed" ⟨"TermMachine$Deed", "valuesMade", "()I"⟩ ⟨"TermMachine$Deed", "valuesMade", "()I"⟩ : Cond) ∈ AW := aw_tb (tb_3 (List.mem_of_getElem? (i := 138) rfl)) rfl
theorem aw_619 : (.code ⟨"TermMachine$Deed", "valuesMade", "()I"⟩ prog_2_method_4_code 1 (some .int) : Cond) ∈ AW := aw_tb (tb_3 (List.mem_of_getElem? (i := 139) rfl)) rfl
theorem aw_620 : (.methodLink "TermMachine$Work" 201 ⟨"TermMachine$Store", "addGrown", "(II)I"⟩ : Cond) ∈ AW := aw_tb (tb_3 (List.mem_of_getElem? (i := 140) rfl)) rfl
theorem aw_621 : (.instanceMethod ⟨"TermMachine$Store", "addGrown", "(II)I"⟩ : Cond) ∈ AW := aw_tb (tb_3 (List.mem_of_getElem? (i := 141) rfl)) rfl
theorem aw_622 : (.selects "TermMachine$Store" ⟨"TermMachine$Store", "addGrown", "(II)I"⟩ ⟨"TermMachine$Store", "addGrown", "(II)I"⟩ : Cond) ∈ AW := aw_tb (tb_3 (List.mem_of_getElem? (i := 142) rfl)) rfl
theorem aw_623 : (.code ⟨"TermMachine$Store", "addGrown", "(II)I"⟩ prog_6_method_4_code 4 (some .int) : Cond) ∈ AW := aw_tb (tb_3 (List.mem_of_getElem? (i := 143) rfl)) rfl
theorem aw_624 : (.methodLink "TermMachine$Store" 36 ⟨"TermMachine$Store", "add", "(IJII)I"⟩ : Cond) ∈ AW := aw_tb (tb_3 (List.mem_of_getElem? (i := 144) rfl)) rfl
theorem aw_625 : (.methodLink "TermMachine$Work" 174 ⟨"TermMachine$Frames", "drop", "()V"⟩ : Cond) ∈ AW := aw_tb (tb_3 (List.mem_of_getElem? (i := 145) rfl)) rfl
theorem aw_626 : (.instanceMethod ⟨"TermMachine$Frames", "drop", "()V"⟩ : Cond) ∈ AW := aw_tb (tb_3 (List.mem_of_getElem? (i := 146) rfl)) rfl
theorem aw_627 : (.selects "TermMachine$Frames" ⟨"TermMachine$Frames", "drop", "()V"⟩ ⟨"TermMachine$Frames", "drop", "()V"⟩ : Cond) ∈ AW := aw_tb (tb_3 (List.mem_of_getElem? (i := 147) rfl)) rfl
theorem aw_628 : (.code ⟨"TermMachine$Frames", "drop", "()V"⟩ prog_3_method_4_code 1 none : Cond) ∈ AW := aw_tb (tb_3 (List.mem_of_getElem? (i := 148) rfl)) rfl
theorem aw_629 : (.methodLink "TermMachine$Work" 100 ⟨"TermMachine$Work", "stepReturning", "()V"⟩ : Cond) ∈ AW := aw_tb (tb_3 (List.mem_of_getElem? (i := 149) rfl)) rfl
theorem aw_631 : (.instanceMethod ⟨"TermMachine$Work", "stepReturning", "()V"⟩ : Cond) ∈ AW := aw_tb (tb_3 (List.mem_of_getElem? (i := 151) rfl)) rfl
theorem aw_632 : (.code ⟨"TermMachine$Work", "stepReturning", "()V"⟩ prog_9_method_12_code 1 none : Cond) ∈ AW := aw_tb (tb_3 (List.mem_of_getElem? (i := 152) rfl)) rfl
theorem aw_633 : (.methodLink "TermMachine$Work" 164 ⟨"TermMachine$Work", "forceValue", "()V"⟩ : Cond) ∈ AW := aw_tb (tb_3 (List.mem_of_getElem? (i := 153) rfl)) rfl
theorem aw_635 : (.instanceMethod ⟨"TermMachine$Work", "forceValue", "()V"⟩ : Cond) ∈ AW := aw_tb (tb_3 (List.mem_of_getElem? (i := 155) rfl)) rfl
theorem aw_636 : (.code ⟨"TermMachine$Work", "forceValue", "()V"⟩ prog_9_method_13_code 1 none : Cond) ∈ AW := aw_tb (tb_3 (List.mem_of_getElem? (i := 156) rfl)) rfl
theorem aw_637 : (.methodLink "TermMachine$Work" 183 ⟨"TermMachine$Store", "wantsForce", "(I)Z"⟩ : Cond) ∈ AW := aw_tb (tb_3 (List.mem_of_getElem? (i := 157) rfl)) rfl
theorem aw_638 : (.instanceMethod ⟨"TermMachine$Store", "wantsForce", "(I)Z"⟩ : Cond) ∈ AW := aw_tb (tb_3 (List.mem_of_getElem? (i := 158) rfl)) rfl
theorem aw_639 : (.selects "TermMachine$Store" ⟨"TermMachine$Store", "wantsForce", "(I)Z"⟩ ⟨"TermMachine$Store", "wantsForce", "(I)Z"⟩ : Cond) ∈ AW := aw_tb (tb_3 (List.mem_of_getElem? (i := 159) rfl)) rfl
theorem aw_640 : (.code ⟨"TermMachine$Store", "wantsForce", "(I)Z"⟩ prog_6_method_6_code 2 (some .boolean) : Cond) ∈ AW := aw_tb (tb_3 (List.mem_of_getElem? (i := 160) rfl)) rfl
theorem aw_641 : (.methodLink "TermMachine$Work" 186 ⟨"TermMachine$Work", "growPartial", "(II)V"⟩ : Cond) ∈ AW := aw_tb (tb_3 (List.mem_of_getElem? (i := 161) rfl)) rfl
theorem aw_643 : (.instanceMethod ⟨"TermMachine$Work", "growPartial", "(II)V"⟩ : Cond) ∈ AW := aw_tb (tb_3 (List.mem_of_getElem? (i := 163) rfl)) rfl
theorem aw_644 : (.code ⟨"TermMachine$Work", "growPartial", "(II)V"⟩ prog_9_method_17_code 3 none : Cond) ∈ AW := aw_tb (tb_3 (List.mem_of_getElem? (i := 164) rfl)) rfl
theorem aw_645 : (.methodLink "TermMachine$Work" 189 ⟨"TermMachine$Work", "endUnfit", "()V"⟩ : Cond) ∈ AW := aw_tb (tb_3 (List.mem_of_getElem? (i := 165) rfl)) rfl
theorem aw_647 : (.instanceMethod ⟨"TermMachine$Work", "endUnfit", "()V"⟩ : Cond) ∈ AW := aw_tb (tb_3 (List.mem_of_getElem? (i := 167) rfl)) rfl
theorem aw_648 : (.code ⟨"TermMachine$Work", "endUnfit", "()V"⟩ prog_9_method_18_code 1 none : Cond) ∈ AW := aw_tb (tb_3 (List.mem_of_getElem? (i := 168) rfl)) rfl
theorem aw_649 : (.methodLink "TermMachine$Work" 167 ⟨"TermMachine$Work", "turnToArgument", "()V"⟩ : Cond) ∈ AW := aw_tb (tb_3 (List.mem_of_getElem? (i := 169) rfl)) rfl
theorem aw_651 : (.instanceMethod ⟨"TermMachine$Work", "turnToArgument", "()V"⟩ : Cond) ∈ AW := aw_tb (tb_3 (List.mem_of_getElem? (i := 171) rfl)) rfl
theorem aw_652 : (.code ⟨"TermMachine$Work", "turnToArgument", "()V"⟩ prog_9_method_14_code 3 none : Cond) ∈ AW := aw_tb (tb_3 (List.mem_of_getElem? (i := 172) rfl)) rfl
theorem aw_653 : (.methodLink "TermMachine$Work" 192 ⟨"TermMachine$Frames", "latestEnvironment", "()I"⟩ : Cond) ∈ AW := aw_tb (tb_3 (List.mem_of_getElem? (i := 173) rfl)) rfl
theorem aw_654 : (.instanceMethod ⟨"TermMachine$Frames", "latestEnvironment", "()I"⟩ : Cond) ∈ AW := aw_tb (tb_3 (List.mem_of_getElem? (i := 174) rfl)) rfl
theorem aw_655 : (.selects "TermMachine$Frames" ⟨"TermMachine$Frames", "latestEnvironment", "()I"⟩ ⟨"TermMachine$Frames", "latestEnvironment", "()I"⟩ : Cond) ∈ AW := aw_tb (tb_3 (List.mem_of_getElem? (i := 175) rfl)) rfl
theorem aw_656 : (.code ⟨"TermMachine$Frames", "latestEnvironment", "()I"⟩ prog_3_method_7_code 1 (some .int) : Cond) ∈ AW := aw_tb (tb_3 (List.mem_of_getElem? (i := 176) rfl)) rfl
theorem aw_657 : (.methodLink "TermMachine$Work" 170 ⟨"TermMachine$Work", "applyFunction", "(I)V"⟩ : Cond) ∈ AW := aw_tb (tb_3 (List.mem_of_getElem? (i := 177) rfl)) rfl
theorem aw_659 : (.instanceMethod ⟨"TermMachine$Work", "applyFunction", "(I)V"⟩ : Cond) ∈ AW := aw_tb (tb_3 (List.mem_of_getElem? (i := 179) rfl)) rfl
theorem aw_660 : (.code ⟨"TermMachine$Work", "applyFunction", "(I)V"⟩ prog_9_method_15_code 2 none : Cond) ∈ AW := aw_tb (tb_3 (List.mem_of_getElem? (i := 180) rfl)) rfl
theorem aw_661 : (.methodLink "TermMachine$Work" 195 ⟨"TermMachine$Work", "enterFunction", "(I)V"⟩ : Cond) ∈ AW := aw_tb (tb_3 (List.mem_of_getElem? (i := 181) rfl)) rfl
theorem aw_663 : (.instanceMethod ⟨"TermMachine$Work", "enterFunction", "(I)V"⟩ : Cond) ∈ AW := aw_tb (tb_3 (List.mem_of_getElem? (i := 183) rfl)) rfl
theorem aw_664 : (.code ⟨"TermMachine$Work", "enterFunction", "(I)V"⟩ prog_9_method_16_code 3 none : Cond) ∈ AW := aw_tb (tb_3 (List.mem_of_getElem? (i := 184) rfl)) rfl
theorem aw_665 : (.methodLink "TermMachine$Work" 198 ⟨"TermMachine$Store", "wantsArgument", "(I)Z"⟩ : Cond) ∈ AW := aw_tb (tb_3 (List.mem_of_getElem? (i := 185) rfl)) rfl
theorem aw_666 : (.methodLink "TermMachine$Work" 103 ⟨"TermMachine$Teller", "tell", "(LTermMachine$Program;LTermMachine$Store;I)V"⟩ : Cond) ∈ AW := aw_tb (tb_3 (List.mem_of_getElem? (i := 186) rfl)) rfl
theorem aw_667 : (.instanceMethod ⟨"TermMachine$Teller", "tell", "(LTermMachine$Program;LTermMachine$Store;I)V"⟩ : Cond) ∈ AW := aw_tb (tb_3 (List.mem_of_getElem? (i := 187) rfl)) rfl
theorem aw_668 : (.selects "TermMachine$Teller" ⟨"TermMachine$Teller", "tell", "(LTermMachine$Program;LTermMachine$Store;I)V"⟩ ⟨"TermMachine$Teller", "tell", "(LTermMachine$Program;LTermMachine$Store;I)V"⟩ : Cond) ∈ AW := aw_tb (tb_3 (List.mem_of_getElem? (i := 188) rfl)) rfl
theorem aw_669 : (.code ⟨"TermMachine$Teller", "tell", "(LTermMachine$Program;LTermMachine$Store;I)V"⟩ prog_7_method_3_code 5 none : Cond) ∈ AW := aw_tb (tb_3 (List.mem_of_getElem? (i := 189) rfl)) rfl
theorem aw_670 : (.methodLink "TermMachine$Teller" 35 ⟨"TermMachine$Teller", "putOff", "(III)V"⟩ : Cond) ∈ AW := aw_tb (tb_3 (List.mem_of_getElem? (i := 190) rfl)) rfl
theorem aw_672 : (.instanceMethod ⟨"TermMachine$Teller", "putOff", "(III)V"⟩ : Cond) ∈ AW := aw_tb (tb_3 (List.mem_of_getElem? (i := 192) rfl)) rfl
theorem aw_673 : (.code ⟨"TermMachine$Teller", "putOff", "(III)V"⟩ prog_7_method_5_code 4 none : Cond) ∈ AW := aw_tb (tb_3 (List.mem_of_getElem? (i := 193) rfl)) rfl
theorem aw_674 : (.methodLink "TermMachine$Teller" 39 ⟨"TermMachine$Teller", "tellValue", "(LTermMachine$Store;I)V"⟩ : Cond) ∈ AW := aw_tb (tb_3 (List.mem_of_getElem? (i := 194) rfl)) rfl
theorem aw_676 : (.instanceMethod ⟨"TermMachine$Teller", "tellValue", "(LTermMachine$Store;I)V"⟩ : Cond) ∈ AW := aw_tb (tb_3 (List.mem_of_getElem? (i := 196) rfl)) rfl
theorem aw_677 : (.code ⟨"TermMachine$Teller", "tellValue", "(LTermMachine$Store;I)V"⟩ prog_7_method_6_code 4 none : Cond) ∈ AW := aw_tb (tb_3 (List.mem_of_getElem? (i := 197) rfl)) rfl
theorem aw_678 : (.methodLink "TermMachine$Teller" 52 ⟨"TermMachine$Teller", "add", "(I)V"⟩ : Cond) ∈ AW := aw_tb (tb_3 (List.mem_of_getElem? (i := 198) rfl)) rfl
theorem aw_680 : (.instanceMethod ⟨"TermMachine$Teller", "add", "(I)V"⟩ : Cond) ∈ AW := aw_tb (tb_3 (List.mem_of_getElem? (i := 200) rfl)) rfl
theorem aw_681 : (.code ⟨"TermMachine$Teller", "add", "(I)V"⟩ prog_7_method_4_code 2 none : Cond) ∈ AW := aw_tb (tb_3 (List.mem_of_getElem? (i := 201) rfl)) rfl
theorem aw_682 : (.methodLink "TermMachine$Teller" 62 ⟨"TermMachine$Teller", "tellPartial", "(LTermMachine$Store;I)V"⟩ : Cond) ∈ AW := aw_tb (tb_3 (List.mem_of_getElem? (i := 202) rfl)) rfl
theorem aw_684 : (.instanceMethod ⟨"TermMachine$Teller", "tellPartial", "(LTermMachine$Store;I)V"⟩ : Cond) ∈ AW := aw_tb (tb_3 (List.mem_of_getElem? (i := 204) rfl)) rfl
theorem aw_685 : (.code ⟨"TermMachine$Teller", "tellPartial", "(LTermMachine$Store;I)V"⟩ prog_7_method_7_code 9 none : Cond) ∈ AW := aw_tb (tb_3 (List.mem_of_getElem? (i := 205) rfl)) rfl
theorem aw_686 : (.methodLink "TermMachine$Teller" 77 ⟨"TermMachine$Store", "operationOf", "(I)I"⟩ : Cond) ∈ AW := aw_tb (tb_3 (List.mem_of_getElem? (i := 206) rfl)) rfl
theorem tw_687 : (.fieldLinkNest "TermMachine$Teller" 84 "TermMachine" "FORCES" "[I" "TermMachine" : Cond) ∈ lw_tbl := List.mem_append_right _ (tb_3 (List.mem_of_getElem? (i := 207) rfl))
theorem aw_688 : (.methodLink "TermMachine$Teller" 87 ⟨"java/lang/Math", "min", "(II)I"⟩ : Cond) ∈ AW := aw_tb (tb_3 (List.mem_of_getElem? (i := 208) rfl)) rfl
theorem aw_689 : (.static ⟨"java/lang/Math", "min", "(II)I"⟩ : Cond) ∈ AW := aw_tb (tb_3 (List.mem_of_getElem? (i := 209) rfl)) rfl
theorem aw_690 : (.code ⟨"java/lang/Math", "min", "(II)I"⟩ prog_15_method_69_code 2 (some .int) : Cond) ∈ AW := aw_tb (tb_3 (List.mem_of_getElem? (i := 210) rfl)) rfl
theorem tw_691 : (.methodLinkNest "TermMachine$Teller" 69 ⟨"TermMachine", "longAt", "([JI)J"⟩ "TermMachine" : Cond) ∈ lw_tbl := List.mem_append_right _ (tb_3 (List.mem_of_getElem? (i := 211) rfl))
theorem aw_692 : (.methodLink "TermMachine$Teller" 73 ⟨"TermMachine$Teller", "tellConstant", "(IJ)V"⟩ : Cond) ∈ AW := aw_tb (tb_3 (List.mem_of_getElem? (i := 212) rfl)) rfl
theorem aw_694 : (.instanceMethod ⟨"TermMachine$Teller", "tellConstant", "(IJ)V"⟩ : Cond) ∈ AW := aw_tb (tb_3 (List.mem_of_getElem? (i := 214) rfl)) rfl
theorem aw_695 : (.code ⟨"TermMachine$Teller", "tellConstant", "(IJ)V"⟩ prog_7_method_10_code 6 none : Cond) ∈ AW := aw_tb (tb_3 (List.mem_of_getElem? (i := 215) rfl)) rfl
theorem aw_696 : (.methodLink "TermMachine$Teller" 110 ⟨"TermMachine$Packed", "length", "(J)I"⟩ : Cond) ∈ AW := aw_tb (tb_3 (List.mem_of_getElem? (i := 216) rfl)) rfl
theorem aw_697 : (.methodLink "TermMachine$Teller" 116 ⟨"TermMachine$Packed", "byteAt", "(JII)I"⟩ : Cond) ∈ AW := aw_tb (tb_3 (List.mem_of_getElem? (i := 217) rfl)) rfl
theorem aw_698 : (.methodLink "TermMachine$Teller" 43 ⟨"TermMachine$Teller", "tellTerm", "(LTermMachine$Program;LTermMachine$Store;I)V"⟩ : Cond) ∈ AW := aw_tb (tb_3 (List.mem_of_getElem? (i := 218) rfl)) rfl
theorem aw_700 : (.instanceMethod ⟨"TermMachine$Teller", "tellTerm", "(LTermMachine$Program;LTermMachine$Store;I)V"⟩ : Cond) ∈ AW := aw_tb (tb_3 (List.mem_of_getElem? (i := 220) rfl)) rfl
theorem aw_701 : (.code ⟨"TermMachine$Teller", "tellTerm", "(LTermMachine$Program;LTermMachine$Store;I)V"⟩ prog_7_method_8_code 11 none : Cond) ∈ AW := aw_tb (tb_3 (List.mem_of_getElem? (i := 221) rfl)) rfl
theorem aw_702 : (.methodLink "TermMachine$Teller" 100 ⟨"TermMachine$Teller", "tellVariable", "(LTermMachine$Store;III)V"⟩ : Cond) ∈ AW := aw_tb (tb_3 (List.mem_of_getElem? (i := 222) rfl)) rfl
theorem aw_704 : (.instanceMethod ⟨"TermMachine$Teller", "tellVariable", "(LTermMachine$Store;III)V"⟩ : Cond) ∈ AW := aw_tb (tb_3 (List.mem_of_getElem? (i := 224) rfl)) rfl
theorem aw_705 : (.code ⟨"TermMachine$Teller", "tellVariable", "(LTermMachine$Store;III)V"⟩ prog_7_method_9_code 5 none : Cond) ∈ AW := aw_tb (tb_3 (List.mem_of_getElem? (i := 225) rfl)) rfl
theorem aw_706 : (.methodLink "TermMachine$Teller" 107 ⟨"TermMachine$Store", "valueAt", "(II)I"⟩ : Cond) ∈ AW := aw_tb (tb_3 (List.mem_of_getElem? (i := 226) rfl)) rfl
theorem aw_707 : (.classLink "TermMachineLaw" 26 "TermMachineModel" : Cond) ∈ AW := aw_tb (tb_3 (List.mem_of_getElem? (i := 227) rfl)) rfl
theorem aw_708 : (.instantiable "TermMachineModel" 47 : Cond) ∈ AW := aw_tb (tb_3 (List.mem_of_getElem? (i := 228) rfl)) rfl
theorem aw_709 : (.methodLink "TermMachineLaw" 28 ⟨"TermMachineModel", "<init>", "()V"⟩ : Cond) ∈ AW := aw_tb (tb_3 (List.mem_of_getElem? (i := 229) rfl)) rfl
theorem aw_710 : (.instanceMethod ⟨"TermMachineModel", "<init>", "()V"⟩ : Cond) ∈ AW := aw_tb (tb_3 (List.mem_of_getElem? (i := 230) rfl)) rfl
theorem aw_711 : (.code ⟨"TermMachineModel", "<init>", "()V"⟩ prog_11_method_1_code 1 none : Cond) ∈ AW := aw_tb (tb_3 (List.mem_of_getElem? (i := 231) rfl)) rfl
theorem aw_712 : (.methodLink "TermMachineModel" 1 ⟨"java/lang/Object", "<init>", "()V"⟩ : Cond) ∈ AW := aw_tb (tb_3 (List.mem_of_getElem? (i := 232) rfl)) rfl
theorem aw_713 : (.fieldLink "TermMachineModel" 89 "TermMachineModel" "threw" "I" : Cond) ∈ AW := aw_tb (tb_3 (List.mem_of_getElem? (i := 233) rfl)) rfl
theorem aw_714 : (.fieldLink "TermMachineModel" 7 "TermMachineModel" "text" "[I" : Cond) ∈ AW := aw_tb (tb_3 (List.mem_of_getElem? (i := 234) rfl)) rfl
theorem aw_715 : (.fieldLink "TermMachineModel" 93 "TermMachineModel" "size" "I" : Cond) ∈ AW := aw_tb (tb_3 (List.mem_of_getElem? (i := 235) rfl)) rfl
theorem aw_716 : (.fieldLink "TermMachineModel" 99 "TermMachineModel" "at" "I" : Cond) ∈ AW := aw_tb (tb_3 (List.mem_of_getElem? (i := 236) rfl)) rfl
theorem aw_717 : (.fieldLink "TermMachineModel" 96 "TermMachineModel" "error" "I" : Cond) ∈ AW := aw_tb (tb_3 (List.mem_of_getElem? (i := 237) rfl)) rfl
theorem aw_718 : (.fieldLink "TermMachineModel" 125 "TermMachineModel" "found" "I" : Cond) ∈ AW := aw_tb (tb_3 (List.mem_of_getElem? (i := 238) rfl)) rfl
theorem aw_719 : (.fieldLink "TermMachineModel" 13 "TermMachineModel" "tags" "[I" : Cond) ∈ AW := aw_tb (tb_3 (List.mem_of_getElem? (i := 239) rfl)) rfl
theorem aw_720 : (.fieldLink "TermMachineModel" 16 "TermMachineModel" "subs" "[I" : Cond) ∈ AW := aw_tb (tb_4 (List.mem_of_getElem? (i := 0) rfl)) rfl
theorem aw_721 : (.fieldLink "TermMachineModel" 19 "TermMachineModel" "numbers" "[I" : Cond) ∈ AW := aw_tb (tb_4 (List.mem_of_getElem? (i := 1) rfl)) rfl
theorem aw_722 : (.fieldLink "TermMachineModel" 22 "TermMachineModel" "chars" "[J" : Cond) ∈ AW := aw_tb (tb_4 (List.mem_of_getElem? (i := 2) rfl)) rfl
theorem aw_723 : (.fieldLink "TermMachineModel" 26 "TermMachineModel" "firsts" "[I" : Cond) ∈ AW := aw_tb (tb_4 (List.mem_of_getElem? (i := 3) rfl)) rfl
theorem aw_724 : (.fieldLink "TermMachineModel" 29 "TermMachineModel" "seconds" "[I" : Cond) ∈ AW := aw_tb (tb_4 (List.mem_of_getElem? (i := 4) rfl)) rfl
theorem aw_725 : (.fieldLink "TermMachineModel" 32 "TermMachineModel" "depths" "[I" : Cond) ∈ AW := aw_tb (tb_4 (List.mem_of_getElem? (i := 5) rfl)) rfl
theorem aw_726 : (.fieldLink "TermMachineModel" 35 "TermMachineModel" "lambdas" "[I" : Cond) ∈ AW := aw_tb (tb_4 (List.mem_of_getElem? (i := 6) rfl)) rfl
theorem aw_727 : (.fieldLink "TermMachineModel" 38 "TermMachineModel" "owners" "[I" : Cond) ∈ AW := aw_tb (tb_4 (List.mem_of_getElem? (i := 7) rfl)) rfl
theorem aw_728 : (.fieldLink "TermMachineModel" 128 "TermMachineModel" "version" "I" : Cond) ∈ AW := aw_tb (tb_4 (List.mem_of_getElem? (i := 8) rfl)) rfl
theorem aw_729 : (.fieldLink "TermMachineModel" 138 "TermMachineModel" "terms" "I" : Cond) ∈ AW := aw_tb (tb_4 (List.mem_of_getElem? (i := 9) rfl)) rfl
theorem aw_730 : (.fieldLink "TermMachineModel" 141 "TermMachineModel" "latestVersion" "I" : Cond) ∈ AW := aw_tb (tb_4 (List.mem_of_getElem? (i := 10) rfl)) rfl
theorem aw_731 : (.fieldLink "TermMachineModel" 150 "TermMachineModel" "values" "I" : Cond) ∈ AW := aw_tb (tb_4 (List.mem_of_getElem? (i := 11) rfl)) rfl
theorem aw_732 : (.fieldLink "TermMachineModel" 41 "TermMachineModel" "kind" "[I" : Cond) ∈ AW := aw_tb (tb_4 (List.mem_of_getElem? (i := 12) rfl)) rfl
theorem aw_733 : (.fieldLink "TermMachineModel" 44 "TermMachineModel" "number" "[I" : Cond) ∈ AW := aw_tb (tb_4 (List.mem_of_getElem? (i := 13) rfl)) rfl
theorem aw_734 : (.fieldLink "TermMachineModel" 47 "TermMachineModel" "bytes" "[J" : Cond) ∈ AW := aw_tb (tb_4 (List.mem_of_getElem? (i := 14) rfl)) rfl
theorem aw_735 : (.fieldLink "TermMachineModel" 50 "TermMachineModel" "part" "[I" : Cond) ∈ AW := aw_tb (tb_4 (List.mem_of_getElem? (i := 15) rfl)) rfl
theorem aw_736 : (.fieldLink "TermMachineModel" 53 "TermMachineModel" "around" "[I" : Cond) ∈ AW := aw_tb (tb_4 (List.mem_of_getElem? (i := 16) rfl)) rfl
theorem aw_737 : (.fieldLink "TermMachineModel" 56 "TermMachineModel" "many" "[I" : Cond) ∈ AW := aw_tb (tb_4 (List.mem_of_getElem? (i := 17) rfl)) rfl
theorem aw_738 : (.fieldLink "TermMachineModel" 59 "TermMachineModel" "given" "[I" : Cond) ∈ AW := aw_tb (tb_4 (List.mem_of_getElem? (i := 18) rfl)) rfl
theorem aw_739 : (.fieldLink "TermMachineModel" 153 "TermMachineModel" "environments" "I" : Cond) ∈ AW := aw_tb (tb_4 (List.mem_of_getElem? (i := 19) rfl)) rfl
theorem aw_740 : (.fieldLink "TermMachineModel" 62 "TermMachineModel" "holds" "[I" : Cond) ∈ AW := aw_tb (tb_4 (List.mem_of_getElem? (i := 20) rfl)) rfl
theorem aw_741 : (.fieldLink "TermMachineModel" 65 "TermMachineModel" "outer" "[I" : Cond) ∈ AW := aw_tb (tb_4 (List.mem_of_getElem? (i := 21) rfl)) rfl
theorem aw_742 : (.fieldLink "TermMachineModel" 156 "TermMachineModel" "frames" "I" : Cond) ∈ AW := aw_tb (tb_4 (List.mem_of_getElem? (i := 22) rfl)) rfl
theorem aw_743 : (.fieldLink "TermMachineModel" 68 "TermMachineModel" "frame" "[I" : Cond) ∈ AW := aw_tb (tb_4 (List.mem_of_getElem? (i := 23) rfl)) rfl
theorem aw_744 : (.fieldLink "TermMachineModel" 71 "TermMachineModel" "first" "[I" : Cond) ∈ AW := aw_tb (tb_4 (List.mem_of_getElem? (i := 24) rfl)) rfl
theorem aw_745 : (.fieldLink "TermMachineModel" 74 "TermMachineModel" "second" "[I" : Cond) ∈ AW := aw_tb (tb_4 (List.mem_of_getElem? (i := 25) rfl)) rfl
theorem aw_746 : (.fieldLink "TermMachineModel" 144 "TermMachineModel" "state" "I" : Cond) ∈ AW := aw_tb (tb_4 (List.mem_of_getElem? (i := 26) rfl)) rfl
theorem aw_747 : (.fieldLink "TermMachineModel" 175 "TermMachineModel" "term" "I" : Cond) ∈ AW := aw_tb (tb_4 (List.mem_of_getElem? (i := 27) rfl)) rfl
theorem aw_748 : (.fieldLink "TermMachineModel" 178 "TermMachineModel" "environment" "I" : Cond) ∈ AW := aw_tb (tb_4 (List.mem_of_getElem? (i := 28) rfl)) rfl
theorem aw_749 : (.fieldLink "TermMachineModel" 221 "TermMachineModel" "value" "I" : Cond) ∈ AW := aw_tb (tb_4 (List.mem_of_getElem? (i := 29) rfl)) rfl
theorem aw_750 : (.fieldLink "TermMachineModel" 172 "TermMachineModel" "budget" "I" : Cond) ∈ AW := aw_tb (tb_4 (List.mem_of_getElem? (i := 30) rfl)) rfl
theorem aw_751 : (.fieldLink "TermMachineModel" 159 "TermMachineModel" "steps" "I" : Cond) ∈ AW := aw_tb (tb_4 (List.mem_of_getElem? (i := 31) rfl)) rfl
theorem aw_752 : (.fieldLink "TermMachineModel" 162 "TermMachineModel" "costs" "I" : Cond) ∈ AW := aw_tb (tb_4 (List.mem_of_getElem? (i := 32) rfl)) rfl
theorem aw_753 : (.fieldLink "TermMachineModel" 165 "TermMachineModel" "made" "I" : Cond) ∈ AW := aw_tb (tb_4 (List.mem_of_getElem? (i := 33) rfl)) rfl
theorem aw_754 : (.fieldLink "TermMachineModel" 168 "TermMachineModel" "tells" "I" : Cond) ∈ AW := aw_tb (tb_4 (List.mem_of_getElem? (i := 34) rfl)) rfl
theorem aw_755 : (.fieldLink "TermMachineModel" 77 "TermMachineModel" "told" "[I" : Cond) ∈ AW := aw_tb (tb_4 (List.mem_of_getElem? (i := 35) rfl)) rfl
theorem aw_756 : (.fieldLink "TermMachineModel" 122 "TermMachineModel" "waiting" "I" : Cond) ∈ AW := aw_tb (tb_4 (List.mem_of_getElem? (i := 36) rfl)) rfl
theorem aw_757 : (.fieldLink "TermMachineModel" 80 "TermMachineModel" "what" "[I" : Cond) ∈ AW := aw_tb (tb_4 (List.mem_of_getElem? (i := 37) rfl)) rfl
theorem aw_758 : (.fieldLink "TermMachineModel" 83 "TermMachineModel" "where" "[I" : Cond) ∈ AW := aw_tb (tb_4 (List.mem_of_getElem? (i := 38) rfl)) rfl
theorem aw_759 : (.fieldLink "TermMachineModel" 86 "TermMachineModel" "inside" "[I" : Cond) ∈ AW := aw_tb (tb_4 (List.mem_of_getElem? (i := 39) rfl)) rfl
theorem aw_760 : (.lays "TermMachineModel" "TermMachineModel" "threw" "I" : Cond) ∈ AW := aw_tb (tb_4 (List.mem_of_getElem? (i := 40) rfl)) rfl
theorem aw_762 : (.laysFinal "TermMachineModel" "TermMachineModel" "text" "[I" : Cond) ∈ AW := aw_tb (tb_4 (List.mem_of_getElem? (i := 42) rfl)) rfl
theorem aw_764 : (.lays "TermMachineModel" "TermMachineModel" "size" "I" : Cond) ∈ AW := aw_tb (tb_4 (List.mem_of_getElem? (i := 44) rfl)) rfl
theorem aw_766 : (.lays "TermMachineModel" "TermMachineModel" "at" "I" : Cond) ∈ AW := aw_tb (tb_4 (List.mem_of_getElem? (i := 46) rfl)) rfl
theorem aw_768 : (.lays "TermMachineModel" "TermMachineModel" "error" "I" : Cond) ∈ AW := aw_tb (tb_4 (List.mem_of_getElem? (i := 48) rfl)) rfl
theorem aw_770 : (.lays "TermMachineModel" "TermMachineModel" "found" "I" : Cond) ∈ AW := aw_tb (tb_4 (List.mem_of_getElem? (i := 50) rfl)) rfl
theorem aw_772 : (.laysFinal "TermMachineModel" "TermMachineModel" "tags" "[I" : Cond) ∈ AW := aw_tb (tb_4 (List.mem_of_getElem? (i := 52) rfl)) rfl
theorem aw_774 : (.laysFinal "TermMachineModel" "TermMachineModel" "subs" "[I" : Cond) ∈ AW := aw_tb (tb_4 (List.mem_of_getElem? (i := 54) rfl)) rfl
theorem aw_776 : (.laysFinal "TermMachineModel" "TermMachineModel" "numbers" "[I" : Cond) ∈ AW := aw_tb (tb_4 (List.mem_of_getElem? (i := 56) rfl)) rfl
theorem aw_778 : (.laysFinal "TermMachineModel" "TermMachineModel" "chars" "[J" : Cond) ∈ AW := aw_tb (tb_4 (List.mem_of_getElem? (i := 58) rfl)) rfl
theorem aw_780 : (.laysFinal "TermMachineModel" "TermMachineModel" "firsts" "[I" : Cond) ∈ AW := aw_tb (tb_4 (List.mem_of_getElem? (i := 60) rfl)) rfl
theorem aw_782 : (.laysFinal "TermMachineModel" "TermMachineModel" "seconds" "[I" : Cond) ∈ AW := aw_tb (tb_4 (List.mem_of_getElem? (i := 62) rfl)) rfl
theorem aw_784 : (.laysFinal "TermMachineModel" "TermMachineModel" "depths" "[I" : Cond) ∈ AW := aw_tb (tb_4 (List.mem_of_getElem? (i := 64) rfl)) rfl
theorem aw_786 : (.laysFinal "TermMachineModel" "TermMachineModel" "lambdas" "[I" : Cond) ∈ AW := aw_tb (tb_4 (List.mem_of_getElem? (i := 66) rfl)) rfl
theorem aw_788 : (.laysFinal "TermMachineModel" "TermMachineModel" "owners" "[I" : Cond) ∈ AW := aw_tb (tb_4 (List.mem_of_getElem? (i := 68) rfl)) rfl
theorem aw_790 : (.lays "TermMachineModel" "TermMachineModel" "version" "I" : Cond) ∈ AW := aw_tb (tb_4 (List.mem_of_getElem? (i := 70) rfl)) rfl
theorem aw_792 : (.lays "TermMachineModel" "TermMachineModel" "terms" "I" : Cond) ∈ AW := aw_tb (tb_4 (List.mem_of_getElem? (i := 72) rfl)) rfl
theorem aw_794 : (.lays "TermMachineModel" "TermMachineModel" "latestVersion" "I" : Cond) ∈ AW := aw_tb (tb_4 (List.mem_of_getElem? (i := 74) rfl)) rfl
theorem aw_796 : (.lays "TermMachineModel" "TermMachineModel" "values" "I" : Cond) ∈ AW := aw_tb (tb_4 (List.mem_of_getElem? (i := 76) rfl)) rfl
theorem aw_798 : (.laysFinal "TermMachineModel" "TermMachineModel" "kind" "[I" : Cond) ∈ AW := aw_tb (tb_4 (List.mem_of_getElem? (i := 78) rfl)) rfl
theorem aw_800 : (.laysFinal "TermMachineModel" "TermMachineModel" "number" "[I" : Cond) ∈ AW := aw_tb (tb_4 (List.mem_of_getElem? (i := 80) rfl)) rfl
theorem aw_802 : (.laysFinal "TermMachineModel" "TermMachineModel" "bytes" "[J" : Cond) ∈ AW := aw_tb (tb_4 (List.mem_of_getElem? (i := 82) rfl)) rfl
theorem aw_804 : (.laysFinal "TermMachineModel" "TermMachineModel" "part" "[I" : Cond) ∈ AW := aw_tb (tb_4 (List.mem_of_getElem? (i := 84) rfl)) rfl
theorem aw_806 : (.laysFinal "TermMachineModel" "TermMachineModel" "around" "[I" : Cond) ∈ AW := aw_tb (tb_4 (List.mem_of_getElem? (i := 86) rfl)) rfl
theorem aw_808 : (.laysFinal "TermMachineModel" "TermMachineModel" "many" "[I" : Cond) ∈ AW := aw_tb (tb_4 (List.mem_of_getElem? (i := 88) rfl)) rfl
theorem aw_810 : (.laysFinal "TermMachineModel" "TermMachineModel" "given" "[I" : Cond) ∈ AW := aw_tb (tb_4 (List.mem_of_getElem? (i := 90) rfl)) rfl
theorem aw_812 : (.lays "TermMachineModel" "TermMachineModel" "environments" "I" : Cond) ∈ AW := aw_tb (tb_4 (List.mem_of_getElem? (i := 92) rfl)) rfl
theorem aw_814 : (.laysFinal "TermMachineModel" "TermMachineModel" "holds" "[I" : Cond) ∈ AW := aw_tb (tb_4 (List.mem_of_getElem? (i := 94) rfl)) rfl
theorem aw_816 : (.laysFinal "TermMachineModel" "TermMachineModel" "outer" "[I" : Cond) ∈ AW := aw_tb (tb_4 (List.mem_of_getElem? (i := 96) rfl)) rfl
theorem aw_818 : (.lays "TermMachineModel" "TermMachineModel" "frames" "I" : Cond) ∈ AW := aw_tb (tb_4 (List.mem_of_getElem? (i := 98) rfl)) rfl
theorem aw_820 : (.laysFinal "TermMachineModel" "TermMachineModel" "frame" "[I" : Cond) ∈ AW := aw_tb (tb_4 (List.mem_of_getElem? (i := 100) rfl)) rfl
theorem aw_822 : (.laysFinal "TermMachineModel" "TermMachineModel" "first" "[I" : Cond) ∈ AW := aw_tb (tb_4 (List.mem_of_getElem? (i := 102) rfl)) rfl
theorem aw_824 : (.laysFinal "TermMachineModel" "TermMachineModel" "second" "[I" : Cond) ∈ AW := aw_tb (tb_4 (List.mem_of_getElem? (i := 104) rfl)) rfl
theorem aw_826 : (.lays "TermMachineModel" "TermMachineModel" "state" "I" : Cond) ∈ AW := aw_tb (tb_4 (List.mem_of_getElem? (i := 106) rfl)) rfl
theorem aw_828 : (.lays "TermMachineModel" "TermMachineModel" "term" "I" : Cond) ∈ AW := aw_tb (tb_4 (List.mem_of_getElem? (i := 108) rfl)) rfl
theorem aw_830 : (.lays "TermMachineModel" "TermMachineModel" "environment" "I" : Cond) ∈ AW := aw_tb (tb_4 (List.mem_of_getElem? (i := 110) rfl)) rfl
theorem aw_832 : (.lays "TermMachineModel" "TermMachineModel" "value" "I" : Cond) ∈ AW := aw_tb (tb_4 (List.mem_of_getElem? (i := 112) rfl)) rfl
theorem aw_834 : (.lays "TermMachineModel" "TermMachineModel" "budget" "I" : Cond) ∈ AW := aw_tb (tb_4 (List.mem_of_getElem? (i := 114) rfl)) rfl
theorem aw_836 : (.lays "TermMachineModel" "TermMachineModel" "steps" "I" : Cond) ∈ AW := aw_tb (tb_4 (List.mem_of_getElem? (i := 116) rfl)) rfl
theorem aw_838 : (.lays "TermMachineModel" "TermMachineModel" "costs" "I" : Cond) ∈ AW := aw_tb (tb_4 (List.mem_of_getElem? (i := 118) rfl)) rfl
theorem aw_840 : (.lays "TermMachineModel" "TermMachineModel" "made" "I" : Cond) ∈ AW := aw_tb (tb_4 (List.mem_of_getElem? (i := 120) rfl)) rfl
theorem aw_842 : (.lays "TermMachineModel" "TermMachineModel" "tells" "I" : Cond) ∈ AW := aw_tb (tb_4 (List.mem_of_getElem? (i := 122) rfl)) rfl
theorem aw_844 : (.laysFinal "TermMachineModel" "TermMachineModel" "told" "[I" : Cond) ∈ AW := aw_tb (tb_4 (List.mem_of_getElem? (i := 124) rfl)) rfl
theorem aw_846 : (.lays "TermMachineModel" "TermMachineModel" "waiting" "I" : Cond) ∈ AW := aw_tb (tb_4 (List.mem_of_getElem? (i := 126) rfl)) rfl
theorem aw_848 : (.laysFinal "TermMachineModel" "TermMachineModel" "what" "[I" : Cond) ∈ AW := aw_tb (tb_4 (List.mem_of_getElem? (i := 128) rfl)) rfl
theorem aw_850 : (.laysFinal "TermMachineModel" "TermMachineModel" "where" "[I" : Cond) ∈ AW := aw_tb (tb_4 (List.mem_of_getElem? (i := 130) rfl)) rfl
theorem aw_852 : (.laysFinal "TermMachineModel" "TermMachineModel" "inside" "[I" : Cond) ∈ AW := aw_tb (tb_4 (List.mem_of_getElem? (i := 132) rfl)) rfl
theorem aw_855 : (.methodLink "TermMachineLaw" 35 ⟨"TermMachineModel", "thrown", "()I"⟩ : Cond) ∈ AW := aw_tb (tb_4 (List.mem_of_getElem? (i := 135) rfl)) rfl
theorem aw_856 : (.instanceMethod ⟨"TermMachineModel", "thrown", "()I"⟩ : Cond) ∈ AW := aw_tb (tb_4 (List.mem_of_getElem? (i := 136) rfl)) rfl
theorem aw_857 : (.selects "TermMachineModel" ⟨"TermMachineModel", "thrown", "()I"⟩ ⟨"TermMachineModel", "thrown", "()I"⟩ : Cond) ∈ AW := aw_tb (tb_4 (List.mem_of_getElem? (i := 137) rfl)) rfl
theorem aw_858 : (.code ⟨"TermMachineModel", "thrown", "()I"⟩ prog_11_method_2_code 1 (some .int) : Cond) ∈ AW := aw_tb (tb_4 (List.mem_of_getElem? (i := 138) rfl)) rfl
theorem aw_859 : (.methodLink "TermMachineLaw" 34 ⟨"TermMachineModel", "text", "(II)I"⟩ : Cond) ∈ AW := aw_tb (tb_4 (List.mem_of_getElem? (i := 139) rfl)) rfl
theorem aw_860 : (.instanceMethod ⟨"TermMachineModel", "text", "(II)I"⟩ : Cond) ∈ AW := aw_tb (tb_4 (List.mem_of_getElem? (i := 140) rfl)) rfl
theorem aw_861 : (.selects "TermMachineModel" ⟨"TermMachineModel", "text", "(II)I"⟩ ⟨"TermMachineModel", "text", "(II)I"⟩ : Cond) ∈ AW := aw_tb (tb_4 (List.mem_of_getElem? (i := 141) rfl)) rfl
theorem aw_862 : (.code ⟨"TermMachineModel", "text", "(II)I"⟩ prog_11_method_3_code 4 (some .int) : Cond) ∈ AW := aw_tb (tb_4 (List.mem_of_getElem? (i := 142) rfl)) rfl
theorem aw_863 : (.methodLink "TermMachineLaw" 42 ⟨"TermMachineModel", "read", "()I"⟩ : Cond) ∈ AW := aw_tb (tb_4 (List.mem_of_getElem? (i := 143) rfl)) rfl
theorem aw_864 : (.instanceMethod ⟨"TermMachineModel", "read", "()I"⟩ : Cond) ∈ AW := aw_tb (tb_4 (List.mem_of_getElem? (i := 144) rfl)) rfl
theorem aw_865 : (.selects "TermMachineModel" ⟨"TermMachineModel", "read", "()I"⟩ ⟨"TermMachineModel", "read", "()I"⟩ : Cond) ∈ AW := aw_tb (tb_4 (List.mem_of_getElem? (i := 145) rfl)) rfl
theorem aw_866 : (.code ⟨"TermMachineModel", "read", "()I"⟩ prog_11_method_11_code 2 (some .int) : Cond) ∈ AW := aw_tb (tb_4 (List.mem_of_getElem? (i := 146) rfl)) rfl
theorem aw_867 : (.methodLink "TermMachineModel" 135 ⟨"TermMachineModel", "readText", "()V"⟩ : Cond) ∈ AW := aw_tb (tb_4 (List.mem_of_getElem? (i := 147) rfl)) rfl
theorem aw_869 : (.instanceMethod ⟨"TermMachineModel", "readText", "()V"⟩ : Cond) ∈ AW := aw_tb (tb_4 (List.mem_of_getElem? (i := 149) rfl)) rfl
theorem aw_870 : (.code ⟨"TermMachineModel", "readText", "()V"⟩ prog_11_method_10_code 4 none : Cond) ∈ AW := aw_tb (tb_4 (List.mem_of_getElem? (i := 150) rfl)) rfl
theorem aw_871 : (.methodLink "TermMachineModel" 116 ⟨"TermMachineModel", "natural", "()I"⟩ : Cond) ∈ AW := aw_tb (tb_4 (List.mem_of_getElem? (i := 151) rfl)) rfl
theorem aw_873 : (.instanceMethod ⟨"TermMachineModel", "natural", "()I"⟩ : Cond) ∈ AW := aw_tb (tb_4 (List.mem_of_getElem? (i := 153) rfl)) rfl
theorem aw_874 : (.code ⟨"TermMachineModel", "natural", "()I"⟩ prog_11_method_7_code 8 (some .int) : Cond) ∈ AW := aw_tb (tb_4 (List.mem_of_getElem? (i := 154) rfl)) rfl
theorem aw_875 : (.methodLink "TermMachineModel" 106 ⟨"TermMachineModel", "bit", "()I"⟩ : Cond) ∈ AW := aw_tb (tb_4 (List.mem_of_getElem? (i := 155) rfl)) rfl
theorem aw_877 : (.instanceMethod ⟨"TermMachineModel", "bit", "()I"⟩ : Cond) ∈ AW := aw_tb (tb_4 (List.mem_of_getElem? (i := 157) rfl)) rfl
theorem aw_878 : (.code ⟨"TermMachineModel", "bit", "()I"⟩ prog_11_method_5_code 2 (some .int) : Cond) ∈ AW := aw_tb (tb_4 (List.mem_of_getElem? (i := 158) rfl)) rfl
theorem aw_879 : (.methodLink "TermMachineModel" 102 ⟨"TermMachineModel", "wrong", "(I)V"⟩ : Cond) ∈ AW := aw_tb (tb_4 (List.mem_of_getElem? (i := 159) rfl)) rfl
theorem aw_881 : (.instanceMethod ⟨"TermMachineModel", "wrong", "(I)V"⟩ : Cond) ∈ AW := aw_tb (tb_4 (List.mem_of_getElem? (i := 161) rfl)) rfl
theorem aw_882 : (.code ⟨"TermMachineModel", "wrong", "(I)V"⟩ prog_11_method_4_code 2 none : Cond) ∈ AW := aw_tb (tb_4 (List.mem_of_getElem? (i := 162) rfl)) rfl
theorem aw_883 : (.methodLink "TermMachineModel" 110 ⟨"TermMachineModel", "bits", "(I)I"⟩ : Cond) ∈ AW := aw_tb (tb_4 (List.mem_of_getElem? (i := 163) rfl)) rfl
theorem aw_885 : (.instanceMethod ⟨"TermMachineModel", "bits", "(I)I"⟩ : Cond) ∈ AW := aw_tb (tb_4 (List.mem_of_getElem? (i := 165) rfl)) rfl
theorem aw_886 : (.code ⟨"TermMachineModel", "bits", "(I)I"⟩ prog_11_method_6_code 5 (some .int) : Cond) ∈ AW := aw_tb (tb_4 (List.mem_of_getElem? (i := 166) rfl)) rfl
theorem aw_887 : (.constantLong "TermMachineModel" 114 2147483647 : Cond) ∈ AW := aw_tb (tb_4 (List.mem_of_getElem? (i := 167) rfl)) rfl
theorem aw_888 : (.methodLink "TermMachineModel" 131 ⟨"TermMachineModel", "readTerm", "(III)V"⟩ : Cond) ∈ AW := aw_tb (tb_4 (List.mem_of_getElem? (i := 168) rfl)) rfl
theorem aw_890 : (.instanceMethod ⟨"TermMachineModel", "readTerm", "(III)V"⟩ : Cond) ∈ AW := aw_tb (tb_4 (List.mem_of_getElem? (i := 170) rfl)) rfl
theorem aw_891 : (.code ⟨"TermMachineModel", "readTerm", "(III)V"⟩ prog_11_method_9_code 7 none : Cond) ∈ AW := aw_tb (tb_4 (List.mem_of_getElem? (i := 171) rfl)) rfl
theorem aw_892 : (.methodLink "TermMachineModel" 119 ⟨"TermMachineModel", "constant", "(I)V"⟩ : Cond) ∈ AW := aw_tb (tb_4 (List.mem_of_getElem? (i := 172) rfl)) rfl
theorem aw_894 : (.instanceMethod ⟨"TermMachineModel", "constant", "(I)V"⟩ : Cond) ∈ AW := aw_tb (tb_4 (List.mem_of_getElem? (i := 174) rfl)) rfl
theorem aw_895 : (.code ⟨"TermMachineModel", "constant", "(I)V"⟩ prog_11_method_8_code 7 none : Cond) ∈ AW := aw_tb (tb_4 (List.mem_of_getElem? (i := 175) rfl)) rfl
theorem aw_896 : (.methodLink "TermMachineModel" 147 ⟨"TermMachineModel", "nothing", "()V"⟩ : Cond) ∈ AW := aw_tb (tb_4 (List.mem_of_getElem? (i := 176) rfl)) rfl
theorem aw_898 : (.instanceMethod ⟨"TermMachineModel", "nothing", "()V"⟩ : Cond) ∈ AW := aw_tb (tb_4 (List.mem_of_getElem? (i := 178) rfl)) rfl
theorem aw_899 : (.code ⟨"TermMachineModel", "nothing", "()V"⟩ prog_11_method_12_code 1 none : Cond) ∈ AW := aw_tb (tb_4 (List.mem_of_getElem? (i := 179) rfl)) rfl
theorem aw_900 : (.methodLink "TermMachineLaw" 46 ⟨"TermMachineModel", "begin", "(I)Z"⟩ : Cond) ∈ AW := aw_tb (tb_4 (List.mem_of_getElem? (i := 180) rfl)) rfl
theorem aw_901 : (.instanceMethod ⟨"TermMachineModel", "begin", "(I)Z"⟩ : Cond) ∈ AW := aw_tb (tb_4 (List.mem_of_getElem? (i := 181) rfl)) rfl
theorem aw_902 : (.selects "TermMachineModel" ⟨"TermMachineModel", "begin", "(I)Z"⟩ ⟨"TermMachineModel", "begin", "(I)Z"⟩ : Cond) ∈ AW := aw_tb (tb_4 (List.mem_of_getElem? (i := 182) rfl)) rfl
theorem aw_903 : (.code ⟨"TermMachineModel", "begin", "(I)Z"⟩ prog_11_method_13_code 2 (some .boolean) : Cond) ∈ AW := aw_tb (tb_4 (List.mem_of_getElem? (i := 183) rfl)) rfl
theorem aw_904 : (.constant "TermMachineModel" 171 100000 : Cond) ∈ AW := aw_tb (tb_4 (List.mem_of_getElem? (i := 184) rfl)) rfl
theorem aw_905 : (.methodLink "TermMachineLaw" 49 ⟨"TermMachineModel", "run", "(I)I"⟩ : Cond) ∈ AW := aw_tb (tb_4 (List.mem_of_getElem? (i := 185) rfl)) rfl
theorem aw_906 : (.instanceMethod ⟨"TermMachineModel", "run", "(I)I"⟩ : Cond) ∈ AW := aw_tb (tb_4 (List.mem_of_getElem? (i := 186) rfl)) rfl
theorem aw_907 : (.selects "TermMachineModel" ⟨"TermMachineModel", "run", "(I)I"⟩ ⟨"TermMachineModel", "run", "(I)I"⟩ : Cond) ∈ AW := aw_tb (tb_4 (List.mem_of_getElem? (i := 187) rfl)) rfl
theorem aw_908 : (.code ⟨"TermMachineModel", "run", "(I)I"⟩ prog_11_method_39_code 3 (some .int) : Cond) ∈ AW := aw_tb (tb_4 (List.mem_of_getElem? (i := 188) rfl)) rfl
theorem aw_909 : (.methodLink "TermMachineModel" 273 ⟨"TermMachineModel", "step", "()V"⟩ : Cond) ∈ AW := aw_tb (tb_4 (List.mem_of_getElem? (i := 189) rfl)) rfl
theorem aw_911 : (.instanceMethod ⟨"TermMachineModel", "step", "()V"⟩ : Cond) ∈ AW := aw_tb (tb_4 (List.mem_of_getElem? (i := 191) rfl)) rfl
theorem aw_912 : (.code ⟨"TermMachineModel", "step", "()V"⟩ prog_11_method_38_code 2 none : Cond) ∈ AW := aw_tb (tb_4 (List.mem_of_getElem? (i := 192) rfl)) rfl
theorem aw_913 : (.methodLink "TermMachineModel" 264 ⟨"TermMachineModel", "cost", "()I"⟩ : Cond) ∈ AW := aw_tb (tb_4 (List.mem_of_getElem? (i := 193) rfl)) rfl
theorem aw_915 : (.instanceMethod ⟨"TermMachineModel", "cost", "()I"⟩ : Cond) ∈ AW := aw_tb (tb_4 (List.mem_of_getElem? (i := 195) rfl)) rfl
theorem aw_916 : (.code ⟨"TermMachineModel", "cost", "()I"⟩ prog_11_method_37_code 3 (some .int) : Cond) ∈ AW := aw_tb (tb_4 (List.mem_of_getElem? (i := 196) rfl)) rfl
theorem aw_917 : (.methodLink "TermMachineModel" 243 ⟨"TermMachineModel", "wantsArgument", "(I)Z"⟩ : Cond) ∈ AW := aw_tb (tb_4 (List.mem_of_getElem? (i := 197) rfl)) rfl
theorem aw_919 : (.instanceMethod ⟨"TermMachineModel", "wantsArgument", "(I)Z"⟩ : Cond) ∈ AW := aw_tb (tb_4 (List.mem_of_getElem? (i := 199) rfl)) rfl
theorem aw_920 : (.code ⟨"TermMachineModel", "wantsArgument", "(I)Z"⟩ prog_11_method_19_code 2 (some .boolean) : Cond) ∈ AW := aw_tb (tb_4 (List.mem_of_getElem? (i := 200) rfl)) rfl
theorem aw_921 : (.methodLink "TermMachineModel" 188 ⟨"TermMachineModel", "wantsForce", "(I)Z"⟩ : Cond) ∈ AW := aw_tb (tb_4 (List.mem_of_getElem? (i := 201) rfl)) rfl
theorem aw_923 : (.instanceMethod ⟨"TermMachineModel", "wantsForce", "(I)Z"⟩ : Cond) ∈ AW := aw_tb (tb_4 (List.mem_of_getElem? (i := 203) rfl)) rfl
theorem aw_924 : (.code ⟨"TermMachineModel", "wantsForce", "(I)Z"⟩ prog_11_method_18_code 2 (some .boolean) : Cond) ∈ AW := aw_tb (tb_4 (List.mem_of_getElem? (i := 204) rfl)) rfl
theorem aw_925 : (.methodLink "TermMachineModel" 185 ⟨"TermMachineModel", "forcesOf", "(I)I"⟩ : Cond) ∈ AW := aw_tb (tb_4 (List.mem_of_getElem? (i := 205) rfl)) rfl
theorem aw_926 : (.static ⟨"TermMachineModel", "forcesOf", "(I)I"⟩ : Cond) ∈ AW := aw_tb (tb_4 (List.mem_of_getElem? (i := 206) rfl)) rfl
theorem aw_927 : (.code ⟨"TermMachineModel", "forcesOf", "(I)I"⟩ prog_11_method_16_code 1 (some .int) : Cond) ∈ AW := aw_tb (tb_4 (List.mem_of_getElem? (i := 207) rfl)) rfl
theorem aw_928 : (.methodLink "TermMachineModel" 192 ⟨"TermMachineModel", "argumentsOf", "(I)I"⟩ : Cond) ∈ AW := aw_tb (tb_4 (List.mem_of_getElem? (i := 208) rfl)) rfl
theorem aw_929 : (.static ⟨"TermMachineModel", "argumentsOf", "(I)I"⟩ : Cond) ∈ AW := aw_tb (tb_4 (List.mem_of_getElem? (i := 209) rfl)) rfl
theorem aw_930 : (.code ⟨"TermMachineModel", "argumentsOf", "(I)I"⟩ prog_11_method_17_code 1 (some .int) : Cond) ∈ AW := aw_tb (tb_4 (List.mem_of_getElem? (i := 210) rfl)) rfl
theorem aw_931 : (.methodLink "TermMachineModel" 261 ⟨"TermMachineModel", "price", "(II)I"⟩ : Cond) ∈ AW := aw_tb (tb_4 (List.mem_of_getElem? (i := 211) rfl)) rfl
theorem aw_933 : (.instanceMethod ⟨"TermMachineModel", "price", "(II)I"⟩ : Cond) ∈ AW := aw_tb (tb_4 (List.mem_of_getElem? (i := 213) rfl)) rfl
theorem aw_934 : (.code ⟨"TermMachineModel", "price", "(II)I"⟩ prog_11_method_23_code 6 (some .int) : Cond) ∈ AW := aw_tb (tb_4 (List.mem_of_getElem? (i := 214) rfl)) rfl
theorem aw_935 : (.methodLink "TermMachineModel" 199 ⟨"TermMachineModel", "argument", "(III)I"⟩ : Cond) ∈ AW := aw_tb (tb_4 (List.mem_of_getElem? (i := 215) rfl)) rfl
theorem aw_937 : (.instanceMethod ⟨"TermMachineModel", "argument", "(III)I"⟩ : Cond) ∈ AW := aw_tb (tb_4 (List.mem_of_getElem? (i := 217) rfl)) rfl
theorem aw_938 : (.code ⟨"TermMachineModel", "argument", "(III)I"⟩ prog_11_method_20_code 4 (some .int) : Cond) ∈ AW := aw_tb (tb_4 (List.mem_of_getElem? (i := 218) rfl)) rfl
theorem aw_939 : (.methodLink "TermMachineModel" 224 ⟨"TermMachineModel", "end", "(I)V"⟩ : Cond) ∈ AW := aw_tb (tb_4 (List.mem_of_getElem? (i := 219) rfl)) rfl
theorem aw_941 : (.instanceMethod ⟨"TermMachineModel", "end", "(I)V"⟩ : Cond) ∈ AW := aw_tb (tb_4 (List.mem_of_getElem? (i := 221) rfl)) rfl
theorem aw_942 : (.code ⟨"TermMachineModel", "end", "(I)V"⟩ prog_11_method_27_code 2 none : Cond) ∈ AW := aw_tb (tb_4 (List.mem_of_getElem? (i := 222) rfl)) rfl
theorem aw_943 : (.methodLink "TermMachineModel" 267 ⟨"TermMachineModel", "compute", "()V"⟩ : Cond) ∈ AW := aw_tb (tb_4 (List.mem_of_getElem? (i := 223) rfl)) rfl
theorem aw_945 : (.instanceMethod ⟨"TermMachineModel", "compute", "()V"⟩ : Cond) ∈ AW := aw_tb (tb_4 (List.mem_of_getElem? (i := 225) rfl)) rfl
theorem aw_946 : (.code ⟨"TermMachineModel", "compute", "()V"⟩ prog_11_method_32_code 6 none : Cond) ∈ AW := aw_tb (tb_4 (List.mem_of_getElem? (i := 226) rfl)) rfl
theorem aw_947 : (.methodLink "TermMachineModel" 227 ⟨"TermMachineModel", "variable", "(I)I"⟩ : Cond) ∈ AW := aw_tb (tb_4 (List.mem_of_getElem? (i := 227) rfl)) rfl
theorem aw_949 : (.instanceMethod ⟨"TermMachineModel", "variable", "(I)I"⟩ : Cond) ∈ AW := aw_tb (tb_4 (List.mem_of_getElem? (i := 229) rfl)) rfl
theorem aw_950 : (.code ⟨"TermMachineModel", "variable", "(I)I"⟩ prog_11_method_31_code 4 (some .int) : Cond) ∈ AW := aw_tb (tb_4 (List.mem_of_getElem? (i := 230) rfl)) rfl
theorem aw_951 : (.methodLink "TermMachineModel" 230 ⟨"TermMachineModel", "returns", "(I)V"⟩ : Cond) ∈ AW := aw_tb (tb_4 (List.mem_of_getElem? (i := 231) rfl)) rfl
theorem aw_953 : (.instanceMethod ⟨"TermMachineModel", "returns", "(I)V"⟩ : Cond) ∈ AW := aw_tb (tb_4 (List.mem_of_getElem? (i := 233) rfl)) rfl
theorem aw_954 : (.code ⟨"TermMachineModel", "returns", "(I)V"⟩ prog_11_method_29_code 2 none : Cond) ∈ AW := aw_tb (tb_4 (List.mem_of_getElem? (i := 234) rfl)) rfl
theorem aw_955 : (.methodLink "TermMachineModel" 181 ⟨"TermMachineModel", "newValue", "(IIII)I"⟩ : Cond) ∈ AW := aw_tb (tb_4 (List.mem_of_getElem? (i := 235) rfl)) rfl
theorem aw_957 : (.instanceMethod ⟨"TermMachineModel", "newValue", "(IIII)I"⟩ : Cond) ∈ AW := aw_tb (tb_4 (List.mem_of_getElem? (i := 237) rfl)) rfl
theorem aw_958 : (.code ⟨"TermMachineModel", "newValue", "(IIII)I"⟩ prog_11_method_14_code 5 (some .int) : Cond) ∈ AW := aw_tb (tb_4 (List.mem_of_getElem? (i := 238) rfl)) rfl
theorem aw_959 : (.methodLink "TermMachineModel" 215 ⟨"TermMachineModel", "newBytes", "(IJ)I"⟩ : Cond) ∈ AW := aw_tb (tb_4 (List.mem_of_getElem? (i := 239) rfl)) rfl
theorem aw_961 : (.instanceMethod ⟨"TermMachineModel", "newBytes", "(IJ)I"⟩ : Cond) ∈ AW := aw_tb (tb_5 (List.mem_of_getElem? (i := 1) rfl)) rfl
theorem aw_962 : (.code ⟨"TermMachineModel", "newBytes", "(IJ)I"⟩ prog_11_method_15_code 5 (some .int) : Cond) ∈ AW := aw_tb (tb_5 (List.mem_of_getElem? (i := 2) rfl)) rfl
theorem aw_963 : (.methodLink "TermMachineModel" 233 ⟨"TermMachineModel", "pile", "(III)V"⟩ : Cond) ∈ AW := aw_tb (tb_5 (List.mem_of_getElem? (i := 3) rfl)) rfl
theorem aw_965 : (.instanceMethod ⟨"TermMachineModel", "pile", "(III)V"⟩ : Cond) ∈ AW := aw_tb (tb_5 (List.mem_of_getElem? (i := 5) rfl)) rfl
theorem aw_966 : (.code ⟨"TermMachineModel", "pile", "(III)V"⟩ prog_11_method_28_code 4 none : Cond) ∈ AW := aw_tb (tb_5 (List.mem_of_getElem? (i := 6) rfl)) rfl
theorem aw_967 : (.methodLink "TermMachineModel" 236 ⟨"TermMachineModel", "computes", "(II)V"⟩ : Cond) ∈ AW := aw_tb (tb_5 (List.mem_of_getElem? (i := 7) rfl)) rfl
theorem aw_969 : (.instanceMethod ⟨"TermMachineModel", "computes", "(II)V"⟩ : Cond) ∈ AW := aw_tb (tb_5 (List.mem_of_getElem? (i := 9) rfl)) rfl
theorem aw_970 : (.code ⟨"TermMachineModel", "computes", "(II)V"⟩ prog_11_method_30_code 3 none : Cond) ∈ AW := aw_tb (tb_5 (List.mem_of_getElem? (i := 10) rfl)) rfl
theorem aw_971 : (.methodLink "TermMachineModel" 270 ⟨"TermMachineModel", "back", "()V"⟩ : Cond) ∈ AW := aw_tb (tb_5 (List.mem_of_getElem? (i := 11) rfl)) rfl
theorem aw_973 : (.instanceMethod ⟨"TermMachineModel", "back", "()V"⟩ : Cond) ∈ AW := aw_tb (tb_5 (List.mem_of_getElem? (i := 13) rfl)) rfl
theorem aw_974 : (.code ⟨"TermMachineModel", "back", "()V"⟩ prog_11_method_36_code 5 none : Cond) ∈ AW := aw_tb (tb_5 (List.mem_of_getElem? (i := 14) rfl)) rfl
theorem aw_975 : (.methodLink "TermMachineModel" 252 ⟨"TermMachineModel", "tell", "(I)V"⟩ : Cond) ∈ AW := aw_tb (tb_5 (List.mem_of_getElem? (i := 15) rfl)) rfl
theorem aw_977 : (.instanceMethod ⟨"TermMachineModel", "tell", "(I)V"⟩ : Cond) ∈ AW := aw_tb (tb_5 (List.mem_of_getElem? (i := 17) rfl)) rfl
theorem aw_978 : (.code ⟨"TermMachineModel", "tell", "(I)V"⟩ prog_11_method_45_code 5 none : Cond) ∈ AW := aw_tb (tb_5 (List.mem_of_getElem? (i := 18) rfl)) rfl
theorem aw_979 : (.methodLink "TermMachineModel" 283 ⟨"TermMachineModel", "ask", "(IIII)V"⟩ : Cond) ∈ AW := aw_tb (tb_5 (List.mem_of_getElem? (i := 19) rfl)) rfl
theorem aw_981 : (.instanceMethod ⟨"TermMachineModel", "ask", "(IIII)V"⟩ : Cond) ∈ AW := aw_tb (tb_5 (List.mem_of_getElem? (i := 21) rfl)) rfl
theorem aw_982 : (.code ⟨"TermMachineModel", "ask", "(IIII)V"⟩ prog_11_method_41_code 5 none : Cond) ∈ AW := aw_tb (tb_5 (List.mem_of_getElem? (i := 22) rfl)) rfl
theorem aw_983 : (.methodLink "TermMachineModel" 287 ⟨"TermMachineModel", "sayValue", "(I)V"⟩ : Cond) ∈ AW := aw_tb (tb_5 (List.mem_of_getElem? (i := 23) rfl)) rfl
theorem aw_985 : (.instanceMethod ⟨"TermMachineModel", "sayValue", "(I)V"⟩ : Cond) ∈ AW := aw_tb (tb_5 (List.mem_of_getElem? (i := 25) rfl)) rfl
theorem aw_986 : (.code ⟨"TermMachineModel", "sayValue", "(I)V"⟩ prog_11_method_43_code 4 none : Cond) ∈ AW := aw_tb (tb_5 (List.mem_of_getElem? (i := 26) rfl)) rfl
theorem aw_987 : (.methodLink "TermMachineModel" 279 ⟨"TermMachineModel", "sayConstant", "(IIJ)V"⟩ : Cond) ∈ AW := aw_tb (tb_5 (List.mem_of_getElem? (i := 27) rfl)) rfl
theorem aw_989 : (.instanceMethod ⟨"TermMachineModel", "sayConstant", "(IIJ)V"⟩ : Cond) ∈ AW := aw_tb (tb_5 (List.mem_of_getElem? (i := 29) rfl)) rfl
theorem aw_990 : (.code ⟨"TermMachineModel", "sayConstant", "(IIJ)V"⟩ prog_11_method_42_code 6 none : Cond) ∈ AW := aw_tb (tb_5 (List.mem_of_getElem? (i := 30) rfl)) rfl
theorem aw_991 : (.methodLink "TermMachineModel" 276 ⟨"TermMachineModel", "say", "(I)V"⟩ : Cond) ∈ AW := aw_tb (tb_5 (List.mem_of_getElem? (i := 31) rfl)) rfl
theorem aw_993 : (.instanceMethod ⟨"TermMachineModel", "say", "(I)V"⟩ : Cond) ∈ AW := aw_tb (tb_5 (List.mem_of_getElem? (i := 33) rfl)) rfl
theorem aw_994 : (.code ⟨"TermMachineModel", "say", "(I)V"⟩ prog_11_method_40_code 2 none : Cond) ∈ AW := aw_tb (tb_5 (List.mem_of_getElem? (i := 34) rfl)) rfl
theorem aw_995 : (.constantLong "TermMachineModel" 219 255 : Cond) ∈ AW := aw_tb (tb_5 (List.mem_of_getElem? (i := 35) rfl)) rfl
theorem aw_996 : (.methodLink "TermMachineModel" 290 ⟨"TermMachineModel", "sayTerm", "(III)V"⟩ : Cond) ∈ AW := aw_tb (tb_5 (List.mem_of_getElem? (i := 36) rfl)) rfl
theorem aw_998 : (.instanceMethod ⟨"TermMachineModel", "sayTerm", "(III)V"⟩ : Cond) ∈ AW := aw_tb (tb_5 (List.mem_of_getElem? (i := 38) rfl)) rfl
theorem aw_999 : (.code ⟨"TermMachineModel", "sayTerm", "(III)V"⟩ prog_11_method_44_code 7 none : Cond) ∈ AW := aw_tb (tb_5 (List.mem_of_getElem? (i := 39) rfl)) rfl
theorem aw_1000 : (.methodLink "TermMachineModel" 255 ⟨"TermMachineModel", "forces", "(I)V"⟩ : Cond) ∈ AW := aw_tb (tb_5 (List.mem_of_getElem? (i := 40) rfl)) rfl
theorem aw_1002 : (.instanceMethod ⟨"TermMachineModel", "forces", "(I)V"⟩ : Cond) ∈ AW := aw_tb (tb_5 (List.mem_of_getElem? (i := 42) rfl)) rfl
theorem aw_1003 : (.code ⟨"TermMachineModel", "forces", "(I)V"⟩ prog_11_method_34_code 4 none : Cond) ∈ AW := aw_tb (tb_5 (List.mem_of_getElem? (i := 43) rfl)) rfl
theorem aw_1004 : (.methodLink "TermMachineModel" 240 ⟨"TermMachineModel", "more", "(II)I"⟩ : Cond) ∈ AW := aw_tb (tb_5 (List.mem_of_getElem? (i := 44) rfl)) rfl
theorem aw_1006 : (.instanceMethod ⟨"TermMachineModel", "more", "(II)I"⟩ : Cond) ∈ AW := aw_tb (tb_5 (List.mem_of_getElem? (i := 46) rfl)) rfl
theorem aw_1007 : (.code ⟨"TermMachineModel", "more", "(II)I"⟩ prog_11_method_33_code 5 (some .int) : Cond) ∈ AW := aw_tb (tb_5 (List.mem_of_getElem? (i := 47) rfl)) rfl
theorem aw_1008 : (.methodLink "TermMachineModel" 258 ⟨"TermMachineModel", "applies", "(II)V"⟩ : Cond) ∈ AW := aw_tb (tb_5 (List.mem_of_getElem? (i := 48) rfl)) rfl
theorem aw_1010 : (.instanceMethod ⟨"TermMachineModel", "applies", "(II)V"⟩ : Cond) ∈ AW := aw_tb (tb_5 (List.mem_of_getElem? (i := 50) rfl)) rfl
theorem aw_1011 : (.code ⟨"TermMachineModel", "applies", "(II)V"⟩ prog_11_method_35_code 8 none : Cond) ∈ AW := aw_tb (tb_5 (List.mem_of_getElem? (i := 51) rfl)) rfl
theorem aw_1012 : (.methodLink "TermMachineModel" 246 ⟨"TermMachineModel", "gives", "(II)Z"⟩ : Cond) ∈ AW := aw_tb (tb_5 (List.mem_of_getElem? (i := 52) rfl)) rfl
theorem aw_1014 : (.instanceMethod ⟨"TermMachineModel", "gives", "(II)Z"⟩ : Cond) ∈ AW := aw_tb (tb_5 (List.mem_of_getElem? (i := 54) rfl)) rfl
theorem aw_1015 : (.code ⟨"TermMachineModel", "gives", "(II)Z"⟩ prog_11_method_25_code 10 (some .boolean) : Cond) ∈ AW := aw_tb (tb_5 (List.mem_of_getElem? (i := 55) rfl)) rfl
theorem aw_1016 : (.methodLink "TermMachineModel" 205 ⟨"TermMachineModel", "fits", "(II)Z"⟩ : Cond) ∈ AW := aw_tb (tb_5 (List.mem_of_getElem? (i := 56) rfl)) rfl
theorem aw_1018 : (.instanceMethod ⟨"TermMachineModel", "fits", "(II)Z"⟩ : Cond) ∈ AW := aw_tb (tb_5 (List.mem_of_getElem? (i := 58) rfl)) rfl
theorem aw_1019 : (.code ⟨"TermMachineModel", "fits", "(II)Z"⟩ prog_11_method_22_code 6 (some .boolean) : Cond) ∈ AW := aw_tb (tb_5 (List.mem_of_getElem? (i := 59) rfl)) rfl
theorem aw_1020 : (.methodLink "TermMachineModel" 195 ⟨"TermMachineModel", "wanted", "(II)I"⟩ : Cond) ∈ AW := aw_tb (tb_5 (List.mem_of_getElem? (i := 60) rfl)) rfl
theorem aw_1021 : (.static ⟨"TermMachineModel", "wanted", "(II)I"⟩ : Cond) ∈ AW := aw_tb (tb_5 (List.mem_of_getElem? (i := 61) rfl)) rfl
theorem aw_1022 : (.code ⟨"TermMachineModel", "wanted", "(II)I"⟩ prog_11_method_21_code 2 (some .int) : Cond) ∈ AW := aw_tb (tb_5 (List.mem_of_getElem? (i := 62) rfl)) rfl
theorem aw_1023 : (.methodLink "TermMachineModel" 209 ⟨"TermMachineModel", "isInt", "(J)Z"⟩ : Cond) ∈ AW := aw_tb (tb_5 (List.mem_of_getElem? (i := 63) rfl)) rfl
theorem aw_1024 : (.static ⟨"TermMachineModel", "isInt", "(J)Z"⟩ : Cond) ∈ AW := aw_tb (tb_5 (List.mem_of_getElem? (i := 64) rfl)) rfl
theorem aw_1025 : (.code ⟨"TermMachineModel", "isInt", "(J)Z"⟩ prog_11_method_24_code 2 (some .boolean) : Cond) ∈ AW := aw_tb (tb_5 (List.mem_of_getElem? (i := 65) rfl)) rfl
theorem aw_1026 : (.constantLong "TermMachineModel" 203 (-2147483648) : Cond) ∈ AW := aw_tb (tb_5 (List.mem_of_getElem? (i := 66) rfl)) rfl
theorem aw_1027 : (.constantLong "TermMachineModel" 213 7 : Cond) ∈ AW := aw_tb (tb_5 (List.mem_of_getElem? (i := 67) rfl)) rfl
theorem aw_1028 : (.methodLink "TermMachineModel" 249 ⟨"TermMachineModel", "result", "(II)I"⟩ : Cond) ∈ AW := aw_tb (tb_5 (List.mem_of_getElem? (i := 68) rfl)) rfl
theorem aw_1030 : (.instanceMethod ⟨"TermMachineModel", "result", "(II)I"⟩ : Cond) ∈ AW := aw_tb (tb_5 (List.mem_of_getElem? (i := 70) rfl)) rfl
theorem aw_1031 : (.code ⟨"TermMachineModel", "result", "(II)I"⟩ prog_11_method_26_code 12 (some .int) : Cond) ∈ AW := aw_tb (tb_5 (List.mem_of_getElem? (i := 71) rfl)) rfl
theorem aw_1032 : (.methodLink "TermMachineLaw" 53 ⟨"TermMachineModel", "told", "(I)I"⟩ : Cond) ∈ AW := aw_tb (tb_5 (List.mem_of_getElem? (i := 72) rfl)) rfl
theorem aw_1033 : (.instanceMethod ⟨"TermMachineModel", "told", "(I)I"⟩ : Cond) ∈ AW := aw_tb (tb_5 (List.mem_of_getElem? (i := 73) rfl)) rfl
theorem aw_1034 : (.selects "TermMachineModel" ⟨"TermMachineModel", "told", "(I)I"⟩ ⟨"TermMachineModel", "told", "(I)I"⟩ : Cond) ∈ AW := aw_tb (tb_5 (List.mem_of_getElem? (i := 74) rfl)) rfl
theorem aw_1035 : (.code ⟨"TermMachineModel", "told", "(I)I"⟩ prog_11_method_46_code 2 (some .int) : Cond) ∈ AW := aw_tb (tb_5 (List.mem_of_getElem? (i := 75) rfl)) rfl
theorem aw_1036 : (.methodLink "TermMachineLaw" 57 ⟨"TermMachineModel", "about", "(I)I"⟩ : Cond) ∈ AW := aw_tb (tb_5 (List.mem_of_getElem? (i := 76) rfl)) rfl
theorem aw_1037 : (.instanceMethod ⟨"TermMachineModel", "about", "(I)I"⟩ : Cond) ∈ AW := aw_tb (tb_5 (List.mem_of_getElem? (i := 77) rfl)) rfl
theorem aw_1038 : (.selects "TermMachineModel" ⟨"TermMachineModel", "about", "(I)I"⟩ ⟨"TermMachineModel", "about", "(I)I"⟩ : Cond) ∈ AW := aw_tb (tb_5 (List.mem_of_getElem? (i := 78) rfl)) rfl
theorem aw_1039 : (.code ⟨"TermMachineModel", "about", "(I)I"⟩ prog_11_method_47_code 2 (some .int) : Cond) ∈ AW := aw_tb (tb_5 (List.mem_of_getElem? (i := 79) rfl)) rfl
theorem aw_1040 : (.sameMethod "java/lang/Throwable" "java/lang/Throwable" "fillInStackTrace" "(I)Ljava/lang/Throwable;" : Cond) ∈ AW := aw_tb (tb_5 (List.mem_of_getElem? (i := 80) rfl)) rfl
theorem as_0 : (.selects "TermMachine$Program" ⟨"TermMachine$Program", "fillTerm", "(LTermMachine$Text;II)I"⟩ ⟨"TermMachine$Program", "fillTerm", "(LTermMachine$Text;II)I"⟩ : Cond) ∈ AW := aw_sl (List.mem_of_getElem? (i := 0) rfl) rfl
theorem as_1 : (.selects "TermMachine$Program" ⟨"TermMachine$Program", "add", "(I)I"⟩ ⟨"TermMachine$Program", "add", "(I)I"⟩ : Cond) ∈ AW := aw_sl (List.mem_of_getElem? (i := 1) rfl) rfl
theorem as_2 : (.selects "java/lang/Throwable" ⟨"java/lang/Throwable", "fillInStackTrace", "(I)Ljava/lang/Throwable;"⟩ ⟨"java/lang/Throwable", "fillInStackTrace", "(I)Ljava/lang/Throwable;"⟩ : Cond) ∈ AW := aw_sl (List.mem_of_getElem? (i := 2) rfl) rfl
theorem as_3 : (.selects "TermMachine$Work" ⟨"TermMachine$Work", "compute", "(II)V"⟩ ⟨"TermMachine$Work", "compute", "(II)V"⟩ : Cond) ∈ AW := aw_sl (List.mem_of_getElem? (i := 3) rfl) rfl
theorem as_4 : (.selects "TermMachine$Work" ⟨"TermMachine$Work", "operates", "()Z"⟩ ⟨"TermMachine$Work", "operates", "()Z"⟩ : Cond) ∈ AW := aw_sl (List.mem_of_getElem? (i := 4) rfl) rfl
theorem as_5 : (.selects "TermMachine$Work" ⟨"TermMachine$Work", "end", "(I)V"⟩ ⟨"TermMachine$Work", "end", "(I)V"⟩ : Cond) ∈ AW := aw_sl (List.mem_of_getElem? (i := 5) rfl) rfl
theorem as_6 : (.selects "TermMachine$Work" ⟨"TermMachine$Work", "stepComputing", "(LTermMachine$Program;)V"⟩ ⟨"TermMachine$Work", "stepComputing", "(LTermMachine$Program;)V"⟩ : Cond) ∈ AW := aw_sl (List.mem_of_getElem? (i := 6) rfl) rfl
theorem as_7 : (.selects "TermMachine$Work" ⟨"TermMachine$Work", "giveBack", "(I)V"⟩ ⟨"TermMachine$Work", "giveBack", "(I)V"⟩ : Cond) ∈ AW := aw_sl (List.mem_of_getElem? (i := 7) rfl) rfl
theorem as_8 : (.selects "TermMachine$Work" ⟨"TermMachine$Work", "goInto", "(LTermMachine$Program;II)V"⟩ ⟨"TermMachine$Work", "goInto", "(LTermMachine$Program;II)V"⟩ : Cond) ∈ AW := aw_sl (List.mem_of_getElem? (i := 8) rfl) rfl
theorem as_9 : (.selects "TermMachine$Work" ⟨"TermMachine$Work", "makeValue", "(LTermMachine$Program;)V"⟩ ⟨"TermMachine$Work", "makeValue", "(LTermMachine$Program;)V"⟩ : Cond) ∈ AW := aw_sl (List.mem_of_getElem? (i := 9) rfl) rfl
theorem as_10 : (.selects "TermMachine$Work" ⟨"TermMachine$Work", "stepOperating", "()V"⟩ ⟨"TermMachine$Work", "stepOperating", "()V"⟩ : Cond) ∈ AW := aw_sl (List.mem_of_getElem? (i := 10) rfl) rfl
theorem as_11 : (.selects "TermMachine$Deed" ⟨"TermMachine$Deed", "fits", "(LTermMachine$Store;)Z"⟩ ⟨"TermMachine$Deed", "fits", "(LTermMachine$Store;)Z"⟩ : Cond) ∈ AW := aw_sl (List.mem_of_getElem? (i := 11) rfl) rfl
theorem as_12 : (.selects "TermMachine$Deed" ⟨"TermMachine$Deed", "workBytes", "(JJ)V"⟩ ⟨"TermMachine$Deed", "workBytes", "(JJ)V"⟩ : Cond) ∈ AW := aw_sl (List.mem_of_getElem? (i := 12) rfl) rfl
theorem as_13 : (.selects "TermMachine$Deed" ⟨"TermMachine$Deed", "give", "(IJ)V"⟩ ⟨"TermMachine$Deed", "give", "(IJ)V"⟩ : Cond) ∈ AW := aw_sl (List.mem_of_getElem? (i := 13) rfl) rfl
theorem as_14 : (.selects "TermMachine$Deed" ⟨"TermMachine$Deed", "giveTruth", "(Z)V"⟩ ⟨"TermMachine$Deed", "giveTruth", "(Z)V"⟩ : Cond) ∈ AW := aw_sl (List.mem_of_getElem? (i := 14) rfl) rfl
theorem as_15 : (.selects "TermMachine$Deed" ⟨"TermMachine$Deed", "workNumbers", "(JJ)V"⟩ ⟨"TermMachine$Deed", "workNumbers", "(JJ)V"⟩ : Cond) ∈ AW := aw_sl (List.mem_of_getElem? (i := 15) rfl) rfl
theorem as_16 : (.selects "TermMachine$Deed" ⟨"TermMachine$Deed", "giveNumber", "(J)V"⟩ ⟨"TermMachine$Deed", "giveNumber", "(J)V"⟩ : Cond) ∈ AW := aw_sl (List.mem_of_getElem? (i := 16) rfl) rfl
theorem as_17 : (.selects "TermMachine$Work" ⟨"TermMachine$Work", "stepReturning", "()V"⟩ ⟨"TermMachine$Work", "stepReturning", "()V"⟩ : Cond) ∈ AW := aw_sl (List.mem_of_getElem? (i := 17) rfl) rfl
theorem as_18 : (.selects "TermMachine$Work" ⟨"TermMachine$Work", "forceValue", "()V"⟩ ⟨"TermMachine$Work", "forceValue", "()V"⟩ : Cond) ∈ AW := aw_sl (List.mem_of_getElem? (i := 18) rfl) rfl
theorem as_19 : (.selects "TermMachine$Work" ⟨"TermMachine$Work", "growPartial", "(II)V"⟩ ⟨"TermMachine$Work", "growPartial", "(II)V"⟩ : Cond) ∈ AW := aw_sl (List.mem_of_getElem? (i := 19) rfl) rfl
theorem as_20 : (.selects "TermMachine$Work" ⟨"TermMachine$Work", "endUnfit", "()V"⟩ ⟨"TermMachine$Work", "endUnfit", "()V"⟩ : Cond) ∈ AW := aw_sl (List.mem_of_getElem? (i := 20) rfl) rfl
theorem as_21 : (.selects "TermMachine$Work" ⟨"TermMachine$Work", "turnToArgument", "()V"⟩ ⟨"TermMachine$Work", "turnToArgument", "()V"⟩ : Cond) ∈ AW := aw_sl (List.mem_of_getElem? (i := 21) rfl) rfl
theorem as_22 : (.selects "TermMachine$Work" ⟨"TermMachine$Work", "applyFunction", "(I)V"⟩ ⟨"TermMachine$Work", "applyFunction", "(I)V"⟩ : Cond) ∈ AW := aw_sl (List.mem_of_getElem? (i := 22) rfl) rfl
theorem as_23 : (.selects "TermMachine$Work" ⟨"TermMachine$Work", "enterFunction", "(I)V"⟩ ⟨"TermMachine$Work", "enterFunction", "(I)V"⟩ : Cond) ∈ AW := aw_sl (List.mem_of_getElem? (i := 23) rfl) rfl
theorem as_24 : (.selects "TermMachine$Teller" ⟨"TermMachine$Teller", "putOff", "(III)V"⟩ ⟨"TermMachine$Teller", "putOff", "(III)V"⟩ : Cond) ∈ AW := aw_sl (List.mem_of_getElem? (i := 24) rfl) rfl
theorem as_25 : (.selects "TermMachine$Teller" ⟨"TermMachine$Teller", "tellValue", "(LTermMachine$Store;I)V"⟩ ⟨"TermMachine$Teller", "tellValue", "(LTermMachine$Store;I)V"⟩ : Cond) ∈ AW := aw_sl (List.mem_of_getElem? (i := 25) rfl) rfl
theorem as_26 : (.selects "TermMachine$Teller" ⟨"TermMachine$Teller", "add", "(I)V"⟩ ⟨"TermMachine$Teller", "add", "(I)V"⟩ : Cond) ∈ AW := aw_sl (List.mem_of_getElem? (i := 26) rfl) rfl
theorem as_27 : (.selects "TermMachine$Teller" ⟨"TermMachine$Teller", "tellPartial", "(LTermMachine$Store;I)V"⟩ ⟨"TermMachine$Teller", "tellPartial", "(LTermMachine$Store;I)V"⟩ : Cond) ∈ AW := aw_sl (List.mem_of_getElem? (i := 27) rfl) rfl
theorem as_28 : (.selects "TermMachine$Teller" ⟨"TermMachine$Teller", "tellConstant", "(IJ)V"⟩ ⟨"TermMachine$Teller", "tellConstant", "(IJ)V"⟩ : Cond) ∈ AW := aw_sl (List.mem_of_getElem? (i := 28) rfl) rfl
theorem as_29 : (.selects "TermMachine$Teller" ⟨"TermMachine$Teller", "tellTerm", "(LTermMachine$Program;LTermMachine$Store;I)V"⟩ ⟨"TermMachine$Teller", "tellTerm", "(LTermMachine$Program;LTermMachine$Store;I)V"⟩ : Cond) ∈ AW := aw_sl (List.mem_of_getElem? (i := 29) rfl) rfl
theorem as_30 : (.selects "TermMachine$Teller" ⟨"TermMachine$Teller", "tellVariable", "(LTermMachine$Store;III)V"⟩ ⟨"TermMachine$Teller", "tellVariable", "(LTermMachine$Store;III)V"⟩ : Cond) ∈ AW := aw_sl (List.mem_of_getElem? (i := 30) rfl) rfl
theorem as_31 : (.selects "TermMachineModel" ⟨"TermMachineModel", "readText", "()V"⟩ ⟨"TermMachineModel", "readText", "()V"⟩ : Cond) ∈ AW := aw_sl (List.mem_of_getElem? (i := 31) rfl) rfl
theorem as_32 : (.selects "TermMachineModel" ⟨"TermMachineModel", "natural", "()I"⟩ ⟨"TermMachineModel", "natural", "()I"⟩ : Cond) ∈ AW := aw_sl (List.mem_of_getElem? (i := 32) rfl) rfl
theorem as_33 : (.selects "TermMachineModel" ⟨"TermMachineModel", "bit", "()I"⟩ ⟨"TermMachineModel", "bit", "()I"⟩ : Cond) ∈ AW := aw_sl (List.mem_of_getElem? (i := 33) rfl) rfl
theorem as_34 : (.selects "TermMachineModel" ⟨"TermMachineModel", "wrong", "(I)V"⟩ ⟨"TermMachineModel", "wrong", "(I)V"⟩ : Cond) ∈ AW := aw_sl (List.mem_of_getElem? (i := 34) rfl) rfl
theorem as_35 : (.selects "TermMachineModel" ⟨"TermMachineModel", "bits", "(I)I"⟩ ⟨"TermMachineModel", "bits", "(I)I"⟩ : Cond) ∈ AW := aw_sl (List.mem_of_getElem? (i := 35) rfl) rfl
theorem as_36 : (.selects "TermMachineModel" ⟨"TermMachineModel", "readTerm", "(III)V"⟩ ⟨"TermMachineModel", "readTerm", "(III)V"⟩ : Cond) ∈ AW := aw_sl (List.mem_of_getElem? (i := 36) rfl) rfl
theorem as_37 : (.selects "TermMachineModel" ⟨"TermMachineModel", "constant", "(I)V"⟩ ⟨"TermMachineModel", "constant", "(I)V"⟩ : Cond) ∈ AW := aw_sl (List.mem_of_getElem? (i := 37) rfl) rfl
theorem as_38 : (.selects "TermMachineModel" ⟨"TermMachineModel", "nothing", "()V"⟩ ⟨"TermMachineModel", "nothing", "()V"⟩ : Cond) ∈ AW := aw_sl (List.mem_of_getElem? (i := 38) rfl) rfl
theorem as_39 : (.selects "TermMachineModel" ⟨"TermMachineModel", "step", "()V"⟩ ⟨"TermMachineModel", "step", "()V"⟩ : Cond) ∈ AW := aw_sl (List.mem_of_getElem? (i := 39) rfl) rfl
theorem as_40 : (.selects "TermMachineModel" ⟨"TermMachineModel", "cost", "()I"⟩ ⟨"TermMachineModel", "cost", "()I"⟩ : Cond) ∈ AW := aw_sl (List.mem_of_getElem? (i := 40) rfl) rfl
theorem as_41 : (.selects "TermMachineModel" ⟨"TermMachineModel", "wantsArgument", "(I)Z"⟩ ⟨"TermMachineModel", "wantsArgument", "(I)Z"⟩ : Cond) ∈ AW := aw_sl (List.mem_of_getElem? (i := 41) rfl) rfl
theorem as_42 : (.selects "TermMachineModel" ⟨"TermMachineModel", "wantsForce", "(I)Z"⟩ ⟨"TermMachineModel", "wantsForce", "(I)Z"⟩ : Cond) ∈ AW := aw_sl (List.mem_of_getElem? (i := 42) rfl) rfl
theorem as_43 : (.selects "TermMachineModel" ⟨"TermMachineModel", "price", "(II)I"⟩ ⟨"TermMachineModel", "price", "(II)I"⟩ : Cond) ∈ AW := aw_sl (List.mem_of_getElem? (i := 43) rfl) rfl
theorem as_44 : (.selects "TermMachineModel" ⟨"TermMachineModel", "argument", "(III)I"⟩ ⟨"TermMachineModel", "argument", "(III)I"⟩ : Cond) ∈ AW := aw_sl (List.mem_of_getElem? (i := 44) rfl) rfl
theorem as_45 : (.selects "TermMachineModel" ⟨"TermMachineModel", "end", "(I)V"⟩ ⟨"TermMachineModel", "end", "(I)V"⟩ : Cond) ∈ AW := aw_sl (List.mem_of_getElem? (i := 45) rfl) rfl
theorem as_46 : (.selects "TermMachineModel" ⟨"TermMachineModel", "compute", "()V"⟩ ⟨"TermMachineModel", "compute", "()V"⟩ : Cond) ∈ AW := aw_sl (List.mem_of_getElem? (i := 46) rfl) rfl
theorem as_47 : (.selects "TermMachineModel" ⟨"TermMachineModel", "variable", "(I)I"⟩ ⟨"TermMachineModel", "variable", "(I)I"⟩ : Cond) ∈ AW := aw_sl (List.mem_of_getElem? (i := 47) rfl) rfl
theorem as_48 : (.selects "TermMachineModel" ⟨"TermMachineModel", "returns", "(I)V"⟩ ⟨"TermMachineModel", "returns", "(I)V"⟩ : Cond) ∈ AW := aw_sl (List.mem_of_getElem? (i := 48) rfl) rfl
theorem as_49 : (.selects "TermMachineModel" ⟨"TermMachineModel", "newValue", "(IIII)I"⟩ ⟨"TermMachineModel", "newValue", "(IIII)I"⟩ : Cond) ∈ AW := aw_sl (List.mem_of_getElem? (i := 49) rfl) rfl
theorem as_50 : (.selects "TermMachineModel" ⟨"TermMachineModel", "newBytes", "(IJ)I"⟩ ⟨"TermMachineModel", "newBytes", "(IJ)I"⟩ : Cond) ∈ AW := aw_sl (List.mem_of_getElem? (i := 50) rfl) rfl
theorem as_51 : (.selects "TermMachineModel" ⟨"TermMachineModel", "pile", "(III)V"⟩ ⟨"TermMachineModel", "pile", "(III)V"⟩ : Cond) ∈ AW := aw_sl (List.mem_of_getElem? (i := 51) rfl) rfl
theorem as_52 : (.selects "TermMachineModel" ⟨"TermMachineModel", "computes", "(II)V"⟩ ⟨"TermMachineModel", "computes", "(II)V"⟩ : Cond) ∈ AW := aw_sl (List.mem_of_getElem? (i := 52) rfl) rfl
theorem as_53 : (.selects "TermMachineModel" ⟨"TermMachineModel", "back", "()V"⟩ ⟨"TermMachineModel", "back", "()V"⟩ : Cond) ∈ AW := aw_sl (List.mem_of_getElem? (i := 53) rfl) rfl
theorem as_54 : (.selects "TermMachineModel" ⟨"TermMachineModel", "tell", "(I)V"⟩ ⟨"TermMachineModel", "tell", "(I)V"⟩ : Cond) ∈ AW := aw_sl (List.mem_of_getElem? (i := 54) rfl) rfl
theorem as_55 : (.selects "TermMachineModel" ⟨"TermMachineModel", "ask", "(IIII)V"⟩ ⟨"TermMachineModel", "ask", "(IIII)V"⟩ : Cond) ∈ AW := aw_sl (List.mem_of_getElem? (i := 55) rfl) rfl
theorem as_56 : (.selects "TermMachineModel" ⟨"TermMachineModel", "sayValue", "(I)V"⟩ ⟨"TermMachineModel", "sayValue", "(I)V"⟩ : Cond) ∈ AW := aw_sl (List.mem_of_getElem? (i := 56) rfl) rfl
theorem as_57 : (.selects "TermMachineModel" ⟨"TermMachineModel", "sayConstant", "(IIJ)V"⟩ ⟨"TermMachineModel", "sayConstant", "(IIJ)V"⟩ : Cond) ∈ AW := aw_sl (List.mem_of_getElem? (i := 57) rfl) rfl
theorem as_58 : (.selects "TermMachineModel" ⟨"TermMachineModel", "say", "(I)V"⟩ ⟨"TermMachineModel", "say", "(I)V"⟩ : Cond) ∈ AW := aw_sl (List.mem_of_getElem? (i := 58) rfl) rfl
theorem as_59 : (.selects "TermMachineModel" ⟨"TermMachineModel", "sayTerm", "(III)V"⟩ ⟨"TermMachineModel", "sayTerm", "(III)V"⟩ : Cond) ∈ AW := aw_sl (List.mem_of_getElem? (i := 59) rfl) rfl
theorem as_60 : (.selects "TermMachineModel" ⟨"TermMachineModel", "forces", "(I)V"⟩ ⟨"TermMachineModel", "forces", "(I)V"⟩ : Cond) ∈ AW := aw_sl (List.mem_of_getElem? (i := 60) rfl) rfl
theorem as_61 : (.selects "TermMachineModel" ⟨"TermMachineModel", "more", "(II)I"⟩ ⟨"TermMachineModel", "more", "(II)I"⟩ : Cond) ∈ AW := aw_sl (List.mem_of_getElem? (i := 61) rfl) rfl
theorem as_62 : (.selects "TermMachineModel" ⟨"TermMachineModel", "applies", "(II)V"⟩ ⟨"TermMachineModel", "applies", "(II)V"⟩ : Cond) ∈ AW := aw_sl (List.mem_of_getElem? (i := 62) rfl) rfl
theorem as_63 : (.selects "TermMachineModel" ⟨"TermMachineModel", "gives", "(II)Z"⟩ ⟨"TermMachineModel", "gives", "(II)Z"⟩ : Cond) ∈ AW := aw_sl (List.mem_of_getElem? (i := 63) rfl) rfl
theorem as_64 : (.selects "TermMachineModel" ⟨"TermMachineModel", "fits", "(II)Z"⟩ ⟨"TermMachineModel", "fits", "(II)Z"⟩ : Cond) ∈ AW := aw_sl (List.mem_of_getElem? (i := 64) rfl) rfl
theorem as_65 : (.selects "TermMachineModel" ⟨"TermMachineModel", "result", "(II)I"⟩ ⟨"TermMachineModel", "result", "(II)I"⟩ : Cond) ∈ AW := aw_sl (List.mem_of_getElem? (i := 65) rfl) rfl
