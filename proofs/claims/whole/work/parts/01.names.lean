-- ===== PART A: goes FIRST, ahead of the names: the tables' words, and 'selects' of the private methods out of them =====
/-- a private method of a class that the tables say can be made, by its rows of tables_1 -/
def lw_okq (q : MethodName × Nat) : Prop := (q.1.cls ≠ "java/lang/invoke/MethodHandle" ∧ q.1.cls ≠ "java/lang/invoke/VarHandle") ∧ Cond.instantiable q.1.cls q.2 ∈ tables_1 ∧ Cond.privateMethod q.1 ∈ tables_1 ∧ Cond.instanceMethod q.1 ∈ tables_1
theorem lw_p0 : lw_okq (⟨"PollMeshes$Directions", "addAlong", "(II)V"⟩, 3) := ⟨⟨by decide +kernel, by decide +kernel⟩, List.mem_of_getElem? (i := 67) (by decide +kernel), List.mem_of_getElem? (i := 190) (by decide +kernel), List.mem_of_getElem? (i := 191) (by decide +kernel)⟩
theorem lw_p1 : lw_okq (⟨"PollMeshes$Search", "moveTo", "(III)V"⟩, 9) := ⟨⟨by decide +kernel, by decide +kernel⟩, List.mem_of_getElem? (i := 92) (by decide +kernel), List.mem_of_getElem? (i := 202) (by decide +kernel), List.mem_of_getElem? (i := 203) (by decide +kernel)⟩
theorem lw_p2 : lw_okq (⟨"PollMeshes$Trials", "insert", "(IJJ)V"⟩, 6) := ⟨⟨by decide +kernel, by decide +kernel⟩, List.mem_of_getElem? (i := 274) (by decide +kernel), List.mem_of_getElem? (i := 518) (by decide +kernel), List.mem_of_getElem? (i := 519) (by decide +kernel)⟩
theorem lw_p3 : lw_okq (⟨"PollMeshes", "boundOf", "(I)I"⟩, 8) := ⟨⟨by decide +kernel, by decide +kernel⟩, List.mem_of_getElem? (i := 16) (by decide +kernel), List.mem_of_getElem? (i := 571) (by decide +kernel), List.mem_of_getElem? (i := 572) (by decide +kernel)⟩
theorem lw_p4 : lw_okq (⟨"PollMeshes$Span", "fill", "(LPollMeshes$Directions;I)V"⟩, 3) := ⟨⟨by decide +kernel, by decide +kernel⟩, List.mem_of_getElem? (i := 317) (by decide +kernel), List.mem_of_getElem? (i := 592) (by decide +kernel), List.mem_of_getElem? (i := 593) (by decide +kernel)⟩
theorem lw_p5 : lw_okq (⟨"PollMeshes$Span", "addAlong", "(II)V"⟩, 3) := ⟨⟨by decide +kernel, by decide +kernel⟩, List.mem_of_getElem? (i := 317) (by decide +kernel), List.mem_of_getElem? (i := 597) (by decide +kernel), List.mem_of_getElem? (i := 598) (by decide +kernel)⟩
theorem lw_p6 : lw_okq (⟨"PollMeshes$Span", "findNormal", "(II)Z"⟩, 3) := ⟨⟨by decide +kernel, by decide +kernel⟩, List.mem_of_getElem? (i := 317) (by decide +kernel), List.mem_of_getElem? (i := 601) (by decide +kernel), List.mem_of_getElem? (i := 602) (by decide +kernel)⟩
theorem lw_p7 : lw_okq (⟨"PollMeshes$Span", "hasRowsOnBothSides", "()Z"⟩, 3) := ⟨⟨by decide +kernel, by decide +kernel⟩, List.mem_of_getElem? (i := 317) (by decide +kernel), List.mem_of_getElem? (i := 605) (by decide +kernel), List.mem_of_getElem? (i := 606) (by decide +kernel)⟩
theorem lw_p8 : lw_okq (⟨"PollMeshes$Nearby", "consider", "(LPollMeshes$State;III)V"⟩, 2) := ⟨⟨by decide +kernel, by decide +kernel⟩, List.mem_of_getElem? (i := 303) (by decide +kernel), List.mem_of_getElem? (i := 627) (by decide +kernel), List.mem_of_getElem? (i := 628) (by decide +kernel)⟩
theorem lw_p9 : lw_okq (⟨"PollMeshes$Text", "beginTerm", "(Z)V"⟩, 10) := ⟨⟨by decide +kernel, by decide +kernel⟩, List.mem_of_getElem? (i := 231) (by decide +kernel), List.mem_of_getElem? (i := 670) (by decide +kernel), List.mem_of_getElem? (i := 671) (by decide +kernel)⟩
theorem lw_p10 : lw_okq (⟨"PollMeshes$Text", "scanCharacter", "(III)V"⟩, 10) := ⟨⟨by decide +kernel, by decide +kernel⟩, List.mem_of_getElem? (i := 231) (by decide +kernel), List.mem_of_getElem? (i := 674) (by decide +kernel), List.mem_of_getElem? (i := 675) (by decide +kernel)⟩
theorem lw_p11 : lw_okq (⟨"PollMeshes$Text", "scanLetter", "(III)V"⟩, 10) := ⟨⟨by decide +kernel, by decide +kernel⟩, List.mem_of_getElem? (i := 231) (by decide +kernel), List.mem_of_getElem? (i := 679) (by decide +kernel), List.mem_of_getElem? (i := 680) (by decide +kernel)⟩
theorem lw_p12 : lw_okq (⟨"PollMeshes$Text", "setFault", "(II)V"⟩, 10) := ⟨⟨by decide +kernel, by decide +kernel⟩, List.mem_of_getElem? (i := 231) (by decide +kernel), List.mem_of_getElem? (i := 683) (by decide +kernel), List.mem_of_getElem? (i := 684) (by decide +kernel)⟩
theorem lw_p13 : lw_okq (⟨"PollMeshes$Text", "scanDigit", "(II)V"⟩, 10) := ⟨⟨by decide +kernel, by decide +kernel⟩, List.mem_of_getElem? (i := 231) (by decide +kernel), List.mem_of_getElem? (i := 687) (by decide +kernel), List.mem_of_getElem? (i := 688) (by decide +kernel)⟩
theorem lw_p14 : lw_okq (⟨"PollMeshes$Text", "scanSign", "(IZ)V"⟩, 10) := ⟨⟨by decide +kernel, by decide +kernel⟩, List.mem_of_getElem? (i := 231) (by decide +kernel), List.mem_of_getElem? (i := 691) (by decide +kernel), List.mem_of_getElem? (i := 692) (by decide +kernel)⟩
theorem lw_p15 : lw_okq (⟨"PollMeshes$Text", "termIsEmpty", "()Z"⟩, 10) := ⟨⟨by decide +kernel, by decide +kernel⟩, List.mem_of_getElem? (i := 231) (by decide +kernel), List.mem_of_getElem? (i := 695) (by decide +kernel), List.mem_of_getElem? (i := 696) (by decide +kernel)⟩
def lw_privs_1 : List (MethodName × Nat) := [(⟨"PollMeshes$Directions", "addAlong", "(II)V"⟩, 3), (⟨"PollMeshes$Search", "moveTo", "(III)V"⟩, 9), (⟨"PollMeshes$Trials", "insert", "(IJJ)V"⟩, 6), (⟨"PollMeshes", "boundOf", "(I)I"⟩, 8), (⟨"PollMeshes$Span", "fill", "(LPollMeshes$Directions;I)V"⟩, 3), (⟨"PollMeshes$Span", "addAlong", "(II)V"⟩, 3), (⟨"PollMeshes$Span", "findNormal", "(II)Z"⟩, 3), (⟨"PollMeshes$Span", "hasRowsOnBothSides", "()Z"⟩, 3), (⟨"PollMeshes$Nearby", "consider", "(LPollMeshes$State;III)V"⟩, 2), (⟨"PollMeshes$Text", "beginTerm", "(Z)V"⟩, 10), (⟨"PollMeshes$Text", "scanCharacter", "(III)V"⟩, 10), (⟨"PollMeshes$Text", "scanLetter", "(III)V"⟩, 10), (⟨"PollMeshes$Text", "setFault", "(II)V"⟩, 10), (⟨"PollMeshes$Text", "scanDigit", "(II)V"⟩, 10), (⟨"PollMeshes$Text", "scanSign", "(IZ)V"⟩, 10), (⟨"PollMeshes$Text", "termIsEmpty", "()Z"⟩, 10)]
theorem lw_r1 : ∀ q ∈ lw_privs_1, lw_okq q := List.forall_mem_cons.mpr ⟨lw_p0, List.forall_mem_cons.mpr ⟨lw_p1, List.forall_mem_cons.mpr ⟨lw_p2, List.forall_mem_cons.mpr ⟨lw_p3, List.forall_mem_cons.mpr ⟨lw_p4, List.forall_mem_cons.mpr ⟨lw_p5, List.forall_mem_cons.mpr ⟨lw_p6, List.forall_mem_cons.mpr ⟨lw_p7, List.forall_mem_cons.mpr ⟨lw_p8, List.forall_mem_cons.mpr ⟨lw_p9, List.forall_mem_cons.mpr ⟨lw_p10, List.forall_mem_cons.mpr ⟨lw_p11, List.forall_mem_cons.mpr ⟨lw_p12, List.forall_mem_cons.mpr ⟨lw_p13, List.forall_mem_cons.mpr ⟨lw_p14, List.forall_mem_cons.mpr ⟨lw_p15, fun _ h => absurd h List.not_mem_nil⟩⟩⟩⟩⟩⟩⟩⟩⟩⟩⟩⟩⟩⟩⟩⟩
theorem lw_p16 : lw_okq (⟨"PollMeshes$Text", "endTerm", "()V"⟩, 10) := ⟨⟨by decide +kernel, by decide +kernel⟩, List.mem_of_getElem? (i := 231) (by decide +kernel), List.mem_of_getElem? (i := 699) (by decide +kernel), List.mem_of_getElem? (i := 700) (by decide +kernel)⟩
theorem lw_p17 : lw_okq (⟨"PollMeshes$Text", "scanEnd", "()V"⟩, 10) := ⟨⟨by decide +kernel, by decide +kernel⟩, List.mem_of_getElem? (i := 231) (by decide +kernel), List.mem_of_getElem? (i := 704) (by decide +kernel), List.mem_of_getElem? (i := 705) (by decide +kernel)⟩
theorem lw_p18 : lw_okq (⟨"PollMeshesModel", "begin", "(I)V"⟩, 15) := ⟨⟨by decide +kernel, by decide +kernel⟩, List.mem_of_getElem? (i := 713) (by decide +kernel), List.mem_of_getElem? (i := 719) (by decide +kernel), List.mem_of_getElem? (i := 720) (by decide +kernel)⟩
theorem lw_p19 : lw_okq (⟨"PollMeshesModel", "record", "()V"⟩, 15) := ⟨⟨by decide +kernel, by decide +kernel⟩, List.mem_of_getElem? (i := 713) (by decide +kernel), List.mem_of_getElem? (i := 783) (by decide +kernel), List.mem_of_getElem? (i := 784) (by decide +kernel)⟩
theorem lw_p20 : lw_okq (⟨"PollMeshesModel", "arePlace", "(III)Z"⟩, 15) := ⟨⟨by decide +kernel, by decide +kernel⟩, List.mem_of_getElem? (i := 713) (by decide +kernel), List.mem_of_getElem? (i := 791) (by decide +kernel), List.mem_of_getElem? (i := 792) (by decide +kernel)⟩
theorem lw_p21 : lw_okq (⟨"PollMeshesModel", "areOfVariables", "(III)Z"⟩, 15) := ⟨⟨by decide +kernel, by decide +kernel⟩, List.mem_of_getElem? (i := 713) (by decide +kernel), List.mem_of_getElem? (i := 798) (by decide +kernel), List.mem_of_getElem? (i := 799) (by decide +kernel)⟩
theorem lw_p22 : lw_okq (⟨"PollMeshesModel", "valueAt", "(IIIZ)J"⟩, 15) := ⟨⟨by decide +kernel, by decide +kernel⟩, List.mem_of_getElem? (i := 713) (by decide +kernel), List.mem_of_getElem? (i := 803) (by decide +kernel), List.mem_of_getElem? (i := 804) (by decide +kernel)⟩
theorem lw_p23 : lw_okq (⟨"PollMeshesModel", "termMany", "()I"⟩, 15) := ⟨⟨by decide +kernel, by decide +kernel⟩, List.mem_of_getElem? (i := 713) (by decide +kernel), List.mem_of_getElem? (i := 820) (by decide +kernel), List.mem_of_getElem? (i := 821) (by decide +kernel)⟩
theorem lw_p24 : lw_okq (⟨"PollMeshesModel", "putTerm", "(IIIII)V"⟩, 15) := ⟨⟨by decide +kernel, by decide +kernel⟩, List.mem_of_getElem? (i := 713) (by decide +kernel), List.mem_of_getElem? (i := 825) (by decide +kernel), List.mem_of_getElem? (i := 826) (by decide +kernel)⟩
theorem lw_p25 : lw_okq (⟨"PollMeshesModel", "oneMore", "(I)I"⟩, 15) := ⟨⟨by decide +kernel, by decide +kernel⟩, List.mem_of_getElem? (i := 713) (by decide +kernel), List.mem_of_getElem? (i := 829) (by decide +kernel), List.mem_of_getElem? (i := 830) (by decide +kernel)⟩
theorem lw_p26 : lw_okq (⟨"PollMeshesModel", "isVariable", "(I)Z"⟩, 15) := ⟨⟨by decide +kernel, by decide +kernel⟩, List.mem_of_getElem? (i := 713) (by decide +kernel), List.mem_of_getElem? (i := 841) (by decide +kernel), List.mem_of_getElem? (i := 842) (by decide +kernel)⟩
theorem lw_p27 : lw_okq (⟨"PollMeshesModel", "isHereAllowed", "()Z"⟩, 15) := ⟨⟨by decide +kernel, by decide +kernel⟩, List.mem_of_getElem? (i := 713) (by decide +kernel), List.mem_of_getElem? (i := 845) (by decide +kernel), List.mem_of_getElem? (i := 846) (by decide +kernel)⟩
theorem lw_p28 : lw_okq (⟨"PollMeshesModel", "isAllowed", "(III)Z"⟩, 15) := ⟨⟨by decide +kernel, by decide +kernel⟩, List.mem_of_getElem? (i := 713) (by decide +kernel), List.mem_of_getElem? (i := 849) (by decide +kernel), List.mem_of_getElem? (i := 850) (by decide +kernel)⟩
theorem lw_p29 : lw_okq (⟨"PollMeshesModel", "directionMany", "()I"⟩, 15) := ⟨⟨by decide +kernel, by decide +kernel⟩, List.mem_of_getElem? (i := 713) (by decide +kernel), List.mem_of_getElem? (i := 857) (by decide +kernel), List.mem_of_getElem? (i := 858) (by decide +kernel)⟩
theorem lw_p30 : lw_okq (⟨"PollMeshesModel", "step", "(II)I"⟩, 15) := ⟨⟨by decide +kernel, by decide +kernel⟩, List.mem_of_getElem? (i := 713) (by decide +kernel), List.mem_of_getElem? (i := 861) (by decide +kernel), List.mem_of_getElem? (i := 862) (by decide +kernel)⟩
theorem lw_p31 : lw_okq (⟨"PollMeshesModel", "putDirection", "(IIII)V"⟩, 15) := ⟨⟨by decide +kernel, by decide +kernel⟩, List.mem_of_getElem? (i := 713) (by decide +kernel), List.mem_of_getElem? (i := 865) (by decide +kernel), List.mem_of_getElem? (i := 866) (by decide +kernel)⟩
def lw_privs_2 : List (MethodName × Nat) := [(⟨"PollMeshes$Text", "endTerm", "()V"⟩, 10), (⟨"PollMeshes$Text", "scanEnd", "()V"⟩, 10), (⟨"PollMeshesModel", "begin", "(I)V"⟩, 15), (⟨"PollMeshesModel", "record", "()V"⟩, 15), (⟨"PollMeshesModel", "arePlace", "(III)Z"⟩, 15), (⟨"PollMeshesModel", "areOfVariables", "(III)Z"⟩, 15), (⟨"PollMeshesModel", "valueAt", "(IIIZ)J"⟩, 15), (⟨"PollMeshesModel", "termMany", "()I"⟩, 15), (⟨"PollMeshesModel", "putTerm", "(IIIII)V"⟩, 15), (⟨"PollMeshesModel", "oneMore", "(I)I"⟩, 15), (⟨"PollMeshesModel", "isVariable", "(I)Z"⟩, 15), (⟨"PollMeshesModel", "isHereAllowed", "()Z"⟩, 15), (⟨"PollMeshesModel", "isAllowed", "(III)Z"⟩, 15), (⟨"PollMeshesModel", "directionMany", "()I"⟩, 15), (⟨"PollMeshesModel", "step", "(II)I"⟩, 15), (⟨"PollMeshesModel", "putDirection", "(IIII)V"⟩, 15)]
theorem lw_r2 : ∀ q ∈ lw_privs_2, lw_okq q := List.forall_mem_cons.mpr ⟨lw_p16, List.forall_mem_cons.mpr ⟨lw_p17, List.forall_mem_cons.mpr ⟨lw_p18, List.forall_mem_cons.mpr ⟨lw_p19, List.forall_mem_cons.mpr ⟨lw_p20, List.forall_mem_cons.mpr ⟨lw_p21, List.forall_mem_cons.mpr ⟨lw_p22, List.forall_mem_cons.mpr ⟨lw_p23, List.forall_mem_cons.mpr ⟨lw_p24, List.forall_mem_cons.mpr ⟨lw_p25, List.forall_mem_cons.mpr ⟨lw_p26, List.forall_mem_cons.mpr ⟨lw_p27, List.forall_mem_cons.mpr ⟨lw_p28, List.forall_mem_cons.mpr ⟨lw_p29, List.forall_mem_cons.mpr ⟨lw_p30, List.forall_mem_cons.mpr ⟨lw_p31, fun _ h => absurd h List.not_mem_nil⟩⟩⟩⟩⟩⟩⟩⟩⟩⟩⟩⟩⟩⟩⟩⟩
theorem lw_p32 : lw_okq (⟨"PollMeshesModel", "clearSearch", "(I)V"⟩, 15) := ⟨⟨by decide +kernel, by decide +kernel⟩, List.mem_of_getElem? (i := 713) (by decide +kernel), List.mem_of_getElem? (i := 877) (by decide +kernel), List.mem_of_getElem? (i := 878) (by decide +kernel)⟩
theorem lw_p33 : lw_okq (⟨"PollMeshesModel", "putPlace", "(III)V"⟩, 15) := ⟨⟨by decide +kernel, by decide +kernel⟩, List.mem_of_getElem? (i := 713) (by decide +kernel), List.mem_of_getElem? (i := 881) (by decide +kernel), List.mem_of_getElem? (i := 882) (by decide +kernel)⟩
theorem lw_p34 : lw_okq (⟨"PollMeshesModel", "canPoll", "()Z"⟩, 15) := ⟨⟨by decide +kernel, by decide +kernel⟩, List.mem_of_getElem? (i := 713) (by decide +kernel), List.mem_of_getElem? (i := 893) (by decide +kernel), List.mem_of_getElem? (i := 894) (by decide +kernel)⟩
theorem lw_p35 : lw_okq (⟨"PollMeshesModel", "pollOnce", "()I"⟩, 15) := ⟨⟨by decide +kernel, by decide +kernel⟩, List.mem_of_getElem? (i := 713) (by decide +kernel), List.mem_of_getElem? (i := 897) (by decide +kernel), List.mem_of_getElem? (i := 898) (by decide +kernel)⟩
theorem lw_p36 : lw_okq (⟨"PollMeshesModel", "layRow", "()V"⟩, 15) := ⟨⟨by decide +kernel, by decide +kernel⟩, List.mem_of_getElem? (i := 713) (by decide +kernel), List.mem_of_getElem? (i := 901) (by decide +kernel), List.mem_of_getElem? (i := 902) (by decide +kernel)⟩
theorem lw_p37 : lw_okq (⟨"PollMeshesModel", "isTrialAllowed", "(II)Z"⟩, 15) := ⟨⟨by decide +kernel, by decide +kernel⟩, List.mem_of_getElem? (i := 713) (by decide +kernel), List.mem_of_getElem? (i := 905) (by decide +kernel), List.mem_of_getElem? (i := 906) (by decide +kernel)⟩
theorem lw_p38 : lw_okq (⟨"PollMeshesModel", "trialAt", "(III)I"⟩, 15) := ⟨⟨by decide +kernel, by decide +kernel⟩, List.mem_of_getElem? (i := 713) (by decide +kernel), List.mem_of_getElem? (i := 909) (by decide +kernel), List.mem_of_getElem? (i := 910) (by decide +kernel)⟩
theorem lw_p39 : lw_okq (⟨"PollMeshesModel", "isAhead", "(III)Z"⟩, 15) := ⟨⟨by decide +kernel, by decide +kernel⟩, List.mem_of_getElem? (i := 713) (by decide +kernel), List.mem_of_getElem? (i := 913) (by decide +kernel), List.mem_of_getElem? (i := 914) (by decide +kernel)⟩
theorem lw_p40 : lw_okq (⟨"PollMeshesModel", "trialValue", "(IIZ)J"⟩, 15) := ⟨⟨by decide +kernel, by decide +kernel⟩, List.mem_of_getElem? (i := 713) (by decide +kernel), List.mem_of_getElem? (i := 917) (by decide +kernel), List.mem_of_getElem? (i := 918) (by decide +kernel)⟩
theorem lw_p41 : lw_okq (⟨"PollMeshesModel", "valueHere", "()J"⟩, 15) := ⟨⟨by decide +kernel, by decide +kernel⟩, List.mem_of_getElem? (i := 713) (by decide +kernel), List.mem_of_getElem? (i := 921) (by decide +kernel), List.mem_of_getElem? (i := 922) (by decide +kernel)⟩
theorem lw_p42 : lw_okq (⟨"PollMeshesModel", "take", "(II)V"⟩, 15) := ⟨⟨by decide +kernel, by decide +kernel⟩, List.mem_of_getElem? (i := 713) (by decide +kernel), List.mem_of_getElem? (i := 925) (by decide +kernel), List.mem_of_getElem? (i := 926) (by decide +kernel)⟩
theorem lw_p43 : lw_okq (⟨"PollMeshesModel", "leave", "()V"⟩, 15) := ⟨⟨by decide +kernel, by decide +kernel⟩, List.mem_of_getElem? (i := 713) (by decide +kernel), List.mem_of_getElem? (i := 929) (by decide +kernel), List.mem_of_getElem? (i := 930) (by decide +kernel)⟩
theorem lw_p44 : lw_okq (⟨"PollMeshesModel", "isBarredBoth", "(III)Z"⟩, 15) := ⟨⟨by decide +kernel, by decide +kernel⟩, List.mem_of_getElem? (i := 713) (by decide +kernel), List.mem_of_getElem? (i := 966) (by decide +kernel), List.mem_of_getElem? (i := 967) (by decide +kernel)⟩
theorem lw_p45 : lw_okq (⟨"PollMeshesModel", "isBarred", "(III)Z"⟩, 15) := ⟨⟨by decide +kernel, by decide +kernel⟩, List.mem_of_getElem? (i := 713) (by decide +kernel), List.mem_of_getElem? (i := 970) (by decide +kernel), List.mem_of_getElem? (i := 971) (by decide +kernel)⟩
theorem lw_p46 : lw_okq (⟨"PollMeshesModel", "spanTwo", "()Z"⟩, 15) := ⟨⟨by decide +kernel, by decide +kernel⟩, List.mem_of_getElem? (i := 713) (by decide +kernel), List.mem_of_getElem? (i := 974) (by decide +kernel), List.mem_of_getElem? (i := 975) (by decide +kernel)⟩
theorem lw_p47 : lw_okq (⟨"PollMeshesModel", "spanThree", "()Z"⟩, 15) := ⟨⟨by decide +kernel, by decide +kernel⟩, List.mem_of_getElem? (i := 713) (by decide +kernel), List.mem_of_getElem? (i := 978) (by decide +kernel), List.mem_of_getElem? (i := 979) (by decide +kernel)⟩
def lw_privs_3 : List (MethodName × Nat) := [(⟨"PollMeshesModel", "clearSearch", "(I)V"⟩, 15), (⟨"PollMeshesModel", "putPlace", "(III)V"⟩, 15), (⟨"PollMeshesModel", "canPoll", "()Z"⟩, 15), (⟨"PollMeshesModel", "pollOnce", "()I"⟩, 15), (⟨"PollMeshesModel", "layRow", "()V"⟩, 15), (⟨"PollMeshesModel", "isTrialAllowed", "(II)Z"⟩, 15), (⟨"PollMeshesModel", "trialAt", "(III)I"⟩, 15), (⟨"PollMeshesModel", "isAhead", "(III)Z"⟩, 15), (⟨"PollMeshesModel", "trialValue", "(IIZ)J"⟩, 15), (⟨"PollMeshesModel", "valueHere", "()J"⟩, 15), (⟨"PollMeshesModel", "take", "(II)V"⟩, 15), (⟨"PollMeshesModel", "leave", "()V"⟩, 15), (⟨"PollMeshesModel", "isBarredBoth", "(III)Z"⟩, 15), (⟨"PollMeshesModel", "isBarred", "(III)Z"⟩, 15), (⟨"PollMeshesModel", "spanTwo", "()Z"⟩, 15), (⟨"PollMeshesModel", "spanThree", "()Z"⟩, 15)]
theorem lw_r3 : ∀ q ∈ lw_privs_3, lw_okq q := List.forall_mem_cons.mpr ⟨lw_p32, List.forall_mem_cons.mpr ⟨lw_p33, List.forall_mem_cons.mpr ⟨lw_p34, List.forall_mem_cons.mpr ⟨lw_p35, List.forall_mem_cons.mpr ⟨lw_p36, List.forall_mem_cons.mpr ⟨lw_p37, List.forall_mem_cons.mpr ⟨lw_p38, List.forall_mem_cons.mpr ⟨lw_p39, List.forall_mem_cons.mpr ⟨lw_p40, List.forall_mem_cons.mpr ⟨lw_p41, List.forall_mem_cons.mpr ⟨lw_p42, List.forall_mem_cons.mpr ⟨lw_p43, List.forall_mem_cons.mpr ⟨lw_p44, List.forall_mem_cons.mpr ⟨lw_p45, List.forall_mem_cons.mpr ⟨lw_p46, List.forall_mem_cons.mpr ⟨lw_p47, fun _ h => absurd h List.not_mem_nil⟩⟩⟩⟩⟩⟩⟩⟩⟩⟩⟩⟩⟩⟩⟩⟩
theorem lw_p48 : lw_okq (⟨"PollMeshesModel", "layAround", "(I)V"⟩, 15) := ⟨⟨by decide +kernel, by decide +kernel⟩, List.mem_of_getElem? (i := 713) (by decide +kernel), List.mem_of_getElem? (i := 990) (by decide +kernel), List.mem_of_getElem? (i := 991) (by decide +kernel)⟩
theorem lw_p49 : lw_okq (⟨"PollMeshesModel", "readText", "()V"⟩, 15) := ⟨⟨by decide +kernel, by decide +kernel⟩, List.mem_of_getElem? (i := 713) (by decide +kernel), List.mem_of_getElem? (i := 1006) (by decide +kernel), List.mem_of_getElem? (i := 1007) (by decide +kernel)⟩
theorem lw_p50 : lw_okq (⟨"PollMeshesModel", "letter", "(I)I"⟩, 15) := ⟨⟨by decide +kernel, by decide +kernel⟩, List.mem_of_getElem? (i := 713) (by decide +kernel), List.mem_of_getElem? (i := 1010) (by decide +kernel), List.mem_of_getElem? (i := 1011) (by decide +kernel)⟩
theorem lw_p51 : lw_okq (⟨"PollMeshesModel", "readTerm", "(Z)V"⟩, 15) := ⟨⟨by decide +kernel, by decide +kernel⟩, List.mem_of_getElem? (i := 713) (by decide +kernel), List.mem_of_getElem? (i := 1014) (by decide +kernel), List.mem_of_getElem? (i := 1015) (by decide +kernel)⟩
theorem lw_p52 : lw_okq (⟨"PollMeshesModel", "isDigit", "(I)Z"⟩, 15) := ⟨⟨by decide +kernel, by decide +kernel⟩, List.mem_of_getElem? (i := 713) (by decide +kernel), List.mem_of_getElem? (i := 1018) (by decide +kernel), List.mem_of_getElem? (i := 1019) (by decide +kernel)⟩
theorem lw_p53 : lw_okq (⟨"PollMeshesModel", "fail", "(I)V"⟩, 15) := ⟨⟨by decide +kernel, by decide +kernel⟩, List.mem_of_getElem? (i := 713) (by decide +kernel), List.mem_of_getElem? (i := 1022) (by decide +kernel), List.mem_of_getElem? (i := 1023) (by decide +kernel)⟩
theorem lw_p54 : lw_okq (⟨"PollMeshesModel", "readNumber", "()I"⟩, 15) := ⟨⟨by decide +kernel, by decide +kernel⟩, List.mem_of_getElem? (i := 713) (by decide +kernel), List.mem_of_getElem? (i := 1026) (by decide +kernel), List.mem_of_getElem? (i := 1027) (by decide +kernel)⟩
theorem lw_p55 : lw_okq (⟨"PollMeshesModel", "readLetters", "(I)V"⟩, 15) := ⟨⟨by decide +kernel, by decide +kernel⟩, List.mem_of_getElem? (i := 713) (by decide +kernel), List.mem_of_getElem? (i := 1030) (by decide +kernel), List.mem_of_getElem? (i := 1031) (by decide +kernel)⟩
def lw_privs_4 : List (MethodName × Nat) := [(⟨"PollMeshesModel", "layAround", "(I)V"⟩, 15), (⟨"PollMeshesModel", "readText", "()V"⟩, 15), (⟨"PollMeshesModel", "letter", "(I)I"⟩, 15), (⟨"PollMeshesModel", "readTerm", "(Z)V"⟩, 15), (⟨"PollMeshesModel", "isDigit", "(I)Z"⟩, 15), (⟨"PollMeshesModel", "fail", "(I)V"⟩, 15), (⟨"PollMeshesModel", "readNumber", "()I"⟩, 15), (⟨"PollMeshesModel", "readLetters", "(I)V"⟩, 15)]
theorem lw_r4 : ∀ q ∈ lw_privs_4, lw_okq q := List.forall_mem_cons.mpr ⟨lw_p48, List.forall_mem_cons.mpr ⟨lw_p49, List.forall_mem_cons.mpr ⟨lw_p50, List.forall_mem_cons.mpr ⟨lw_p51, List.forall_mem_cons.mpr ⟨lw_p52, List.forall_mem_cons.mpr ⟨lw_p53, List.forall_mem_cons.mpr ⟨lw_p54, List.forall_mem_cons.mpr ⟨lw_p55, fun _ h => absurd h List.not_mem_nil⟩⟩⟩⟩⟩⟩⟩⟩
def lw_privs : List (MethodName × Nat) := lw_privs_1 ++ (lw_privs_2 ++ (lw_privs_3 ++ (lw_privs_4)))
def lw_tbl : List Cond := k2_sels lw_privs ++ tables_1
theorem lw_privs_ok : ∀ q ∈ lw_privs, lw_okq q := by
  show ∀ q ∈ lw_privs_1 ++ (lw_privs_2 ++ (lw_privs_3 ++ (lw_privs_4))), lw_okq q
  exact List.forall_mem_append.mpr ⟨lw_r1, List.forall_mem_append.mpr ⟨lw_r2, List.forall_mem_append.mpr ⟨lw_r3, lw_r4⟩⟩⟩
/-! ===== BEGIN words of one list among another's, by their places ===== -/
theorem goodIn_r {big : List Cond} (ws : List Cond) (ps : List Nat) (hp : ws = ps.filterMap (fun i => big[i]?)) (h : ws.all goodWord = true) : GoodIn big ws := by
  intro w hw
  have h1 := List.all_eq_true.mp h w hw
  rw [hp] at hw
  obtain ⟨i, -, hi⟩ := List.mem_filterMap.mp hw
  have hm : w ∈ big := by first | exact List.mem_of_getElem? hi | exact List.getElem?_mem hi
  exact ⟨hm, good_of_word h1⟩
theorem goodIn_app {big a b : List Cond} (ha : GoodIn big a) (hb : GoodIn big b) : GoodIn big (a ++ b) := fun w h => (List.mem_append.mp h).elim (ha w) (hb w)
theorem goodIn_ca {big a b : List Cond} {c : Cond} (ha : GoodIn big (c :: a)) (hb : GoodIn big b) : GoodIn big (c :: (a ++ b)) := fun w h => (List.mem_cons.mp h).elim (fun e => ha w (List.mem_cons.mpr (Or.inl e))) (fun h => (List.mem_append.mp h).elim (fun h => ha w (List.mem_cons.mpr (Or.inr h))) (hb w))
theorem goodIn_sub {big ws : List Cond} (hm : ∀ w ∈ ws, w ∈ big) (h : ws.all goodWord = true) : GoodIn big ws := fun w hw => ⟨hm w hw, good_of_word (List.all_eq_true.mp h w hw)⟩
/-! ===== END ===== -/

/-! ===== BEGIN printed: names, fields, word lists, decode rows ===== -/
def RX0 : String := "PollMeshes$Bounds"
def TX0 : u_T := fun k => match k with
  | 0 => ("PollMeshes$Bounds", "low", "[I", true)
  | _ => ("PollMeshes$Bounds", "high", "[I", true)
def tyX0 : Nat → FieldType := fun k => match k with
  | 0 => .array .int
  | _ => .array .int
abbrev wsX00 : List Cond := u_ws RX0 TX0 2
theorem nmX0 : ∀ a, a < 2 → ∀ b, b < 2 → a ≠ b → (TX0 a).2.1 ≠ (TX0 b).2.1 := by decide +kernel
theorem tyX0_ok : ∀ k, k < 2 → parseFieldDescriptor (TX0 k).2.2.1 = some (tyX0 k) := by decide +kernel
abbrev cX0_init : ByteArray := prog_2_method_1_code
def yX0_init : MethodName := ⟨RX0, "<init>", "()V"⟩
abbrev cX0_reset : ByteArray := prog_2_method_2_code
def yX0_reset : MethodName := ⟨RX0, "reset", "()V"⟩
abbrev cX0_copyFrom : ByteArray := prog_2_method_3_code
def yX0_copyFrom : MethodName := ⟨RX0, "copyFrom", "(LPollMeshes$Bounds;)V"⟩
abbrev cX0_allow : ByteArray := prog_2_method_4_code
def yX0_allow : MethodName := ⟨RX0, "allow", "(III)Z"⟩
def RX1 : String := "PollMeshes$Directions"
def TX1 : u_T := fun k => match k with
  | 0 => ("PollMeshes$Directions", "held", "I", false)
  | 1 => ("PollMeshes$Directions", "steps", "[I", true)
  | _ => ("PollMeshes$Directions", "taken", "[I", true)
def tyX1 : Nat → FieldType := fun k => match k with
  | 0 => .int
  | 1 => .array .int
  | _ => .array .int
abbrev wsX10 : List Cond := u_ws RX1 TX1 3
theorem nmX1 : ∀ a, a < 3 → ∀ b, b < 3 → a ≠ b → (TX1 a).2.1 ≠ (TX1 b).2.1 := by decide +kernel
theorem tyX1_ok : ∀ k, k < 3 → parseFieldDescriptor (TX1 k).2.2.1 = some (tyX1 k) := by decide +kernel
abbrev cX1_init : ByteArray := prog_3_method_1_code
def yX1_init : MethodName := ⟨RX1, "<init>", "()V"⟩
abbrev cX1_reset : ByteArray := prog_3_method_2_code
def yX1_reset : MethodName := ⟨RX1, "reset", "(I)V"⟩
abbrev cX1_addAlong : ByteArray := prog_3_method_3_code
def yX1_addAlong : MethodName := ⟨RX1, "addAlong", "(II)V"⟩
abbrev cX1_copyFrom : ByteArray := prog_3_method_4_code
def yX1_copyFrom : MethodName := ⟨RX1, "copyFrom", "(LPollMeshes$Directions;)V"⟩
abbrev cX1_has : ByteArray := prog_3_method_5_code
def yX1_has : MethodName := ⟨RX1, "has", "(III)Z"⟩
abbrev cX1_add : ByteArray := prog_3_method_6_code
def yX1_add : MethodName := ⟨RX1, "add", "(III)V"⟩
abbrev cX1_remove : ByteArray := prog_3_method_7_code
def yX1_remove : MethodName := ⟨RX1, "remove", "(I)V"⟩
abbrev cX1_forgetTaken : ByteArray := prog_3_method_8_code
def yX1_forgetTaken : MethodName := ⟨RX1, "forgetTaken", "()V"⟩
def RX2 : String := "PollMeshes$History"
def TX2 : u_T := fun k => match k with
  | 0 => ("PollMeshes$History", "held", "I", false)
  | 1 => ("PollMeshes$History", "first", "LPollMeshes$State;", true)
  | 2 => ("PollMeshes$History", "second", "LPollMeshes$State;", true)
  | 3 => ("PollMeshes$History", "third", "LPollMeshes$State;", true)
  | _ => ("PollMeshes$History", "fourth", "LPollMeshes$State;", true)
def tyX2 : Nat → FieldType := fun k => match k with
  | 0 => .int
  | 1 => .object "PollMeshes$State"
  | 2 => .object "PollMeshes$State"
  | 3 => .object "PollMeshes$State"
  | _ => .object "PollMeshes$State"
abbrev wsX20 : List Cond := u_ws RX2 TX2 5
theorem nmX2 : ∀ a, a < 5 → ∀ b, b < 5 → a ≠ b → (TX2 a).2.1 ≠ (TX2 b).2.1 := by decide +kernel
theorem tyX2_ok : ∀ k, k < 5 → parseFieldDescriptor (TX2 k).2.2.1 = some (tyX2 k) := by decide +kernel
abbrev cX2_init : ByteArray := prog_4_method_1_code
def yX2_init : MethodName := ⟨RX2, "<init>", "()V"⟩
abbrev cX2_push : ByteArray := prog_4_method_2_code
def yX2_push : MethodName := ⟨RX2, "push", "(LPollMeshes$State;)V"⟩
abbrev cX2_giveBack : ByteArray := prog_4_method_3_code
def yX2_giveBack : MethodName := ⟨RX2, "giveBack", "(LPollMeshes$State;)V"⟩
def RX3 : String := "PollMeshes$Nearby"
def TX3 : u_T := fun k => match k with
  | 0 => ("PollMeshes$Nearby", "best", "[I", true)
  | _ => ("PollMeshes$Nearby", "least", "J", false)
def tyX3 : Nat → FieldType := fun k => match k with
  | 0 => .array .int
  | _ => .long
abbrev wsX30 : List Cond := u_ws RX3 TX3 2
theorem nmX3 : ∀ a, a < 2 → ∀ b, b < 2 → a ≠ b → (TX3 a).2.1 ≠ (TX3 b).2.1 := by decide +kernel
theorem tyX3_ok : ∀ k, k < 2 → parseFieldDescriptor (TX3 k).2.2.1 = some (tyX3 k) := by decide +kernel
abbrev cX3_init : ByteArray := prog_5_method_1_code
def yX3_init : MethodName := ⟨RX3, "<init>", "()V"⟩
abbrev cX3_findBest : ByteArray := prog_5_method_2_code
def yX3_findBest : MethodName := ⟨RX3, "findBest", "(LPollMeshes$State;I)V"⟩
abbrev cX3_consider : ByteArray := prog_5_method_3_code
def yX3_consider : MethodName := ⟨RX3, "consider", "(LPollMeshes$State;III)V"⟩
def RX4 : String := "PollMeshes$Search"
def TX4 : u_T := fun k => match k with
  | 0 => ("PollMeshes$Search", "place", "[I", true)
  | 1 => ("PollMeshes$Search", "size", "I", false)
  | 2 => ("PollMeshes$Search", "polls", "I", false)
  | 3 => ("PollMeshes$Search", "successes", "I", false)
  | 4 => ("PollMeshes$Search", "looked", "I", false)
  | 5 => ("PollMeshes$Search", "latest", "I", false)
  | 6 => ("PollMeshes$Search", "leftHeld", "I", false)
  | 7 => ("PollMeshes$Search", "left", "[I", true)
  | _ => ("PollMeshes$Search", "ended", "Z", false)
def tyX4 : Nat → FieldType := fun k => match k with
  | 0 => .array .int
  | 1 => .int
  | 2 => .int
  | 3 => .int
  | 4 => .int
  | 5 => .int
  | 6 => .int
  | 7 => .array .int
  | _ => .boolean
abbrev wsX40 : List Cond := u_ws RX4 TX4 9
theorem nmX4 : ∀ a, a < 9 → ∀ b, b < 9 → a ≠ b → (TX4 a).2.1 ≠ (TX4 b).2.1 := by decide +kernel
theorem tyX4_ok : ∀ k, k < 9 → parseFieldDescriptor (TX4 k).2.2.1 = some (tyX4 k) := by decide +kernel
abbrev cX4_init : ByteArray := prog_6_method_1_code
def yX4_init : MethodName := ⟨RX4, "<init>", "()V"⟩
abbrev cX4_begin : ByteArray := prog_6_method_2_code
def yX4_begin : MethodName := ⟨RX4, "begin", "(IIII)V"⟩
abbrev cX4_copyFrom : ByteArray := prog_6_method_3_code
def yX4_copyFrom : MethodName := ⟨RX4, "copyFrom", "(LPollMeshes$Search;)V"⟩
abbrev cX4_moveTo : ByteArray := prog_6_method_4_code
def yX4_moveTo : MethodName := ⟨RX4, "moveTo", "(III)V"⟩
abbrev cX4_forgetDirection : ByteArray := prog_6_method_5_code
def yX4_forgetDirection : MethodName := ⟨RX4, "forgetDirection", "(I)V"⟩
abbrev cX4_succeed : ByteArray := prog_6_method_6_code
def yX4_succeed : MethodName := ⟨RX4, "succeed", "(IIII)V"⟩
abbrev cX4_fail : ByteArray := prog_6_method_7_code
def yX4_fail : MethodName := ⟨RX4, "fail", "()V"⟩
def RX5 : String := "PollMeshes$Span"
def TX5 : u_T := fun k => match k with
  | 0 => ("PollMeshes$Span", "held", "I", false)
  | 1 => ("PollMeshes$Span", "rows", "[I", true)
  | _ => ("PollMeshes$Span", "normal", "[I", true)
def tyX5 : Nat → FieldType := fun k => match k with
  | 0 => .int
  | 1 => .array .int
  | _ => .array .int
abbrev wsX50 : List Cond := u_ws RX5 TX5 3
theorem nmX5 : ∀ a, a < 3 → ∀ b, b < 3 → a ≠ b → (TX5 a).2.1 ≠ (TX5 b).2.1 := by decide +kernel
theorem tyX5_ok : ∀ k, k < 3 → parseFieldDescriptor (TX5 k).2.2.1 = some (tyX5 k) := by decide +kernel
abbrev cX5_init : ByteArray := prog_7_method_1_code
def yX5_init : MethodName := ⟨RX5, "<init>", "()V"⟩
abbrev cX5_isWhole : ByteArray := prog_7_method_2_code
def yX5_isWhole : MethodName := ⟨RX5, "isWhole", "(LPollMeshes$Directions;I)Z"⟩
abbrev cX5_fill : ByteArray := prog_7_method_3_code
def yX5_fill : MethodName := ⟨RX5, "fill", "(LPollMeshes$Directions;I)V"⟩
abbrev cX5_addAlong : ByteArray := prog_7_method_4_code
def yX5_addAlong : MethodName := ⟨RX5, "addAlong", "(II)V"⟩
abbrev cX5_findNormal : ByteArray := prog_7_method_5_code
def yX5_findNormal : MethodName := ⟨RX5, "findNormal", "(II)Z"⟩
abbrev cX5_hasRowsOnBothSides : ByteArray := prog_7_method_6_code
def yX5_hasRowsOnBothSides : MethodName := ⟨RX5, "hasRowsOnBothSides", "()Z"⟩
def RX6 : String := "PollMeshes$State"
def TX6 : u_T := fun k => match k with
  | 0 => ("PollMeshes$State", "dimensions", "I", false)
  | 1 => ("PollMeshes$State", "order", "I", false)
  | 2 => ("PollMeshes$State", "way", "I", false)
  | 3 => ("PollMeshes$State", "terms", "LPollMeshes$Terms;", true)
  | 4 => ("PollMeshes$State", "bounds", "LPollMeshes$Bounds;", true)
  | 5 => ("PollMeshes$State", "directions", "LPollMeshes$Directions;", true)
  | _ => ("PollMeshes$State", "search", "LPollMeshes$Search;", true)
def tyX6 : Nat → FieldType := fun k => match k with
  | 0 => .int
  | 1 => .int
  | 2 => .int
  | 3 => .object "PollMeshes$Terms"
  | 4 => .object "PollMeshes$Bounds"
  | 5 => .object "PollMeshes$Directions"
  | _ => .object "PollMeshes$Search"
abbrev wsX60 : List Cond := u_ws RX6 TX6 7
theorem nmX6 : ∀ a, a < 7 → ∀ b, b < 7 → a ≠ b → (TX6 a).2.1 ≠ (TX6 b).2.1 := by decide +kernel
theorem tyX6_ok : ∀ k, k < 7 → parseFieldDescriptor (TX6 k).2.2.1 = some (tyX6 k) := by decide +kernel
abbrev cX6_init : ByteArray := prog_8_method_1_code
def yX6_init : MethodName := ⟨RX6, "<init>", "()V"⟩
abbrev cX6_reset : ByteArray := prog_8_method_2_code
def yX6_reset : MethodName := ⟨RX6, "reset", "(I)V"⟩
abbrev cX6_copyFrom : ByteArray := prog_8_method_3_code
def yX6_copyFrom : MethodName := ⟨RX6, "copyFrom", "(LPollMeshes$State;)V"⟩
abbrev cX6_hasVariable : ByteArray := prog_8_method_4_code
def yX6_hasVariable : MethodName := ⟨RX6, "hasVariable", "(I)Z"⟩
abbrev cX6_fit : ByteArray := prog_8_method_5_code
def yX6_fit : MethodName := ⟨RX6, "fit", "(IIIII)Z"⟩
abbrev cX6_placeIsAllowed : ByteArray := prog_8_method_6_code
def yX6_placeIsAllowed : MethodName := ⟨RX6, "placeIsAllowed", "()Z"⟩
abbrev cX6_canPoll : ByteArray := prog_8_method_7_code
def yX6_canPoll : MethodName := ⟨RX6, "canPoll", "()Z"⟩
abbrev cX6_valueHere : ByteArray := prog_8_method_8_code
def yX6_valueHere : MethodName := ⟨RX6, "valueHere", "()J"⟩
abbrev cX6_trialNumber : ByteArray := prog_8_method_9_code
def yX6_trialNumber : MethodName := ⟨RX6, "trialNumber", "(III)I"⟩
abbrev cX6_rankOf : ByteArray := prog_8_method_10_code
def yX6_rankOf : MethodName := ⟨RX6, "rankOf", "(IIII)J"⟩
abbrev cX6_pollOnce : ByteArray := prog_8_method_11_code
def yX6_pollOnce : MethodName := ⟨RX6, "pollOnce", "(LPollMeshes$Trials;)I"⟩
def RX7 : String := "PollMeshes$Terms"
def TX7 : u_T := fun k => match k with
  | 0 => ("PollMeshes$Terms", "held", "I", false)
  | 1 => ("PollMeshes$Terms", "factors", "[I", true)
  | _ => ("PollMeshes$Terms", "powers", "[I", true)
def tyX7 : Nat → FieldType := fun k => match k with
  | 0 => .int
  | 1 => .array .int
  | _ => .array .int
abbrev wsX70 : List Cond := u_ws RX7 TX7 3
theorem nmX7 : ∀ a, a < 3 → ∀ b, b < 3 → a ≠ b → (TX7 a).2.1 ≠ (TX7 b).2.1 := by decide +kernel
theorem tyX7_ok : ∀ k, k < 3 → parseFieldDescriptor (TX7 k).2.2.1 = some (tyX7 k) := by decide +kernel
abbrev cX7_init : ByteArray := prog_9_method_1_code
def yX7_init : MethodName := ⟨RX7, "<init>", "()V"⟩
abbrev cX7_copyFrom : ByteArray := prog_9_method_2_code
def yX7_copyFrom : MethodName := ⟨RX7, "copyFrom", "(LPollMeshes$Terms;)V"⟩
abbrev cX7_add : ByteArray := prog_9_method_3_code
def yX7_add : MethodName := ⟨RX7, "add", "(IIII)V"⟩
abbrev cX7_remove : ByteArray := prog_9_method_4_code
def yX7_remove : MethodName := ⟨RX7, "remove", "(I)V"⟩
abbrev cX7_sumAt : ByteArray := prog_9_method_5_code
def yX7_sumAt : MethodName := ⟨RX7, "sumAt", "(IIII)J"⟩
abbrev cX7_raised : ByteArray := prog_9_method_6_code
def yX7_raised : MethodName := ⟨RX7, "raised", "(II)J"⟩
def RX8 : String := "PollMeshes$Text"
def TX8 : u_T := fun k => match k with
  | 0 => ("PollMeshes$Text", "length", "I", false)
  | 1 => ("PollMeshes$Text", "characters", "[I", true)
  | 2 => ("PollMeshes$Text", "found", "LPollMeshes$Terms;", true)
  | 3 => ("PollMeshes$Text", "faultPlace", "I", false)
  | 4 => ("PollMeshes$Text", "faultReason", "I", false)
  | 5 => ("PollMeshes$Text", "negative", "Z", false)
  | 6 => ("PollMeshes$Text", "digits", "I", false)
  | 7 => ("PollMeshes$Text", "number", "I", false)
  | 8 => ("PollMeshes$Text", "letters", "I", false)
  | _ => ("PollMeshes$Text", "powers", "[I", true)
def tyX8 : Nat → FieldType := fun k => match k with
  | 0 => .int
  | 1 => .array .int
  | 2 => .object "PollMeshes$Terms"
  | 3 => .int
  | 4 => .int
  | 5 => .boolean
  | 6 => .int
  | 7 => .int
  | 8 => .int
  | _ => .array .int
abbrev wsX80 : List Cond := u_ws RX8 TX8 10
theorem nmX8 : ∀ a, a < 10 → ∀ b, b < 10 → a ≠ b → (TX8 a).2.1 ≠ (TX8 b).2.1 := by decide +kernel
theorem tyX8_ok : ∀ k, k < 10 → parseFieldDescriptor (TX8 k).2.2.1 = some (tyX8 k) := by decide +kernel
abbrev cX8_init : ByteArray := prog_10_method_1_code
def yX8_init : MethodName := ⟨RX8, "<init>", "()V"⟩
abbrev cX8_append : ByteArray := prog_10_method_2_code
def yX8_append : MethodName := ⟨RX8, "append", "(I)V"⟩
abbrev cX8_isFunction : ByteArray := prog_10_method_3_code
def yX8_isFunction : MethodName := ⟨RX8, "isFunction", "(I)Z"⟩
abbrev cX8_scanCharacter : ByteArray := prog_10_method_4_code
def yX8_scanCharacter : MethodName := ⟨RX8, "scanCharacter", "(III)V"⟩
abbrev cX8_scanLetter : ByteArray := prog_10_method_5_code
def yX8_scanLetter : MethodName := ⟨RX8, "scanLetter", "(III)V"⟩
abbrev cX8_scanDigit : ByteArray := prog_10_method_6_code
def yX8_scanDigit : MethodName := ⟨RX8, "scanDigit", "(II)V"⟩
abbrev cX8_scanSign : ByteArray := prog_10_method_7_code
def yX8_scanSign : MethodName := ⟨RX8, "scanSign", "(IZ)V"⟩
abbrev cX8_scanEnd : ByteArray := prog_10_method_8_code
def yX8_scanEnd : MethodName := ⟨RX8, "scanEnd", "()V"⟩
abbrev cX8_termIsEmpty : ByteArray := prog_10_method_9_code
def yX8_termIsEmpty : MethodName := ⟨RX8, "termIsEmpty", "()Z"⟩
abbrev cX8_beginTerm : ByteArray := prog_10_method_10_code
def yX8_beginTerm : MethodName := ⟨RX8, "beginTerm", "(Z)V"⟩
abbrev cX8_endTerm : ByteArray := prog_10_method_11_code
def yX8_endTerm : MethodName := ⟨RX8, "endTerm", "()V"⟩
abbrev cX8_setFault : ByteArray := prog_10_method_12_code
def yX8_setFault : MethodName := ⟨RX8, "setFault", "(II)V"⟩
def RX9 : String := "PollMeshes$Trials"
def TX9 : u_T := fun k => match k with
  | 0 => ("PollMeshes$Trials", "held", "I", false)
  | 1 => ("PollMeshes$Trials", "directions", "[I", true)
  | 2 => ("PollMeshes$Trials", "ranks", "[J", true)
  | 3 => ("PollMeshes$Trials", "values", "[J", true)
  | 4 => ("PollMeshes$Trials", "valueHere", "J", false)
  | _ => ("PollMeshes$Trials", "looked", "I", false)
def tyX9 : Nat → FieldType := fun k => match k with
  | 0 => .int
  | 1 => .array .int
  | 2 => .array .long
  | 3 => .array .long
  | 4 => .long
  | _ => .int
abbrev wsX90 : List Cond := u_ws RX9 TX9 6
theorem nmX9 : ∀ a, a < 6 → ∀ b, b < 6 → a ≠ b → (TX9 a).2.1 ≠ (TX9 b).2.1 := by decide +kernel
theorem tyX9_ok : ∀ k, k < 6 → parseFieldDescriptor (TX9 k).2.2.1 = some (tyX9 k) := by decide +kernel
abbrev cX9_init : ByteArray := prog_11_method_1_code
def yX9_init : MethodName := ⟨RX9, "<init>", "()V"⟩
abbrev cX9_gather : ByteArray := prog_11_method_2_code
def yX9_gather : MethodName := ⟨RX9, "gather", "(LPollMeshes$State;I)V"⟩
abbrev cX9_insert : ByteArray := prog_11_method_3_code
def yX9_insert : MethodName := ⟨RX9, "insert", "(IJJ)V"⟩
abbrev cX9_isBetter : ByteArray := prog_11_method_4_code
def yX9_isBetter : MethodName := ⟨RX9, "isBetter", "(I)Z"⟩
abbrev cX9_noneIsBetter : ByteArray := prog_11_method_5_code
def yX9_noneIsBetter : MethodName := ⟨RX9, "noneIsBetter", "()Z"⟩
abbrev cX9_chooseBetter : ByteArray := prog_11_method_6_code
def yX9_chooseBetter : MethodName := ⟨RX9, "chooseBetter", "(I)I"⟩
def RX10 : String := "PollMeshes"
def TX10 : u_T := fun k => match k with
  | 0 => ("PollMeshes", "now", "LPollMeshes$State;", true)
  | 1 => ("PollMeshes", "history", "LPollMeshes$History;", true)
  | 2 => ("PollMeshes", "snapshot", "LPollMeshes$State;", true)
  | 3 => ("PollMeshes", "hasSnapshot", "Z", false)
  | 4 => ("PollMeshes", "text", "LPollMeshes$Text;", true)
  | 5 => ("PollMeshes", "trials", "LPollMeshes$Trials;", true)
  | 6 => ("PollMeshes", "nearby", "LPollMeshes$Nearby;", true)
  | _ => ("PollMeshes", "span", "LPollMeshes$Span;", true)
def tyX10 : Nat → FieldType := fun k => match k with
  | 0 => .object "PollMeshes$State"
  | 1 => .object "PollMeshes$History"
  | 2 => .object "PollMeshes$State"
  | 3 => .boolean
  | 4 => .object "PollMeshes$Text"
  | 5 => .object "PollMeshes$Trials"
  | 6 => .object "PollMeshes$Nearby"
  | _ => .object "PollMeshes$Span"
abbrev wsX100 : List Cond := u_ws RX10 TX10 8
theorem nmX10 : ∀ a, a < 8 → ∀ b, b < 8 → a ≠ b → (TX10 a).2.1 ≠ (TX10 b).2.1 := by decide +kernel
theorem tyX10_ok : ∀ k, k < 8 → parseFieldDescriptor (TX10 k).2.2.1 = some (tyX10 k) := by decide +kernel
abbrev cX10_init : ByteArray := prog_1_method_1_code
def yX10_init : MethodName := ⟨RX10, "<init>", "()V"⟩
abbrev cX10_variables : ByteArray := prog_1_method_2_code
def yX10_variables : MethodName := ⟨RX10, "variables", "(I)I"⟩
abbrev cX10_term : ByteArray := prog_1_method_3_code
def yX10_term : MethodName := ⟨RX10, "term", "(IIII)I"⟩
abbrev cX10_dropTerm : ByteArray := prog_1_method_4_code
def yX10_dropTerm : MethodName := ⟨RX10, "dropTerm", "(I)I"⟩
abbrev cX10_bound : ByteArray := prog_1_method_5_code
def yX10_bound : MethodName := ⟨RX10, "bound", "(III)I"⟩
abbrev cX10_direction : ByteArray := prog_1_method_6_code
def yX10_direction : MethodName := ⟨RX10, "direction", "(III)I"⟩
abbrev cX10_dropDirection : ByteArray := prog_1_method_7_code
def yX10_dropDirection : MethodName := ⟨RX10, "dropDirection", "(I)I"⟩
abbrev cX10_start : ByteArray := prog_1_method_8_code
def yX10_start : MethodName := ⟨RX10, "start", "(IIII)I"⟩
abbrev cX10_order : ByteArray := prog_1_method_9_code
def yX10_order : MethodName := ⟨RX10, "order", "(II)I"⟩
abbrev cX10_poll : ByteArray := prog_1_method_10_code
def yX10_poll : MethodName := ⟨RX10, "poll", "()I"⟩
abbrev cX10_run : ByteArray := prog_1_method_11_code
def yX10_run : MethodName := ⟨RX10, "run", "(I)I"⟩
abbrev cX10_value : ByteArray := prog_1_method_12_code
def yX10_value : MethodName := ⟨RX10, "value", "(IIII)J"⟩
abbrev cX10_termOf : ByteArray := prog_1_method_13_code
def yX10_termOf : MethodName := ⟨RX10, "termOf", "(II)I"⟩
abbrev cX10_directionOf : ByteArray := prog_1_method_14_code
def yX10_directionOf : MethodName := ⟨RX10, "directionOf", "(II)I"⟩
abbrev cX10_searchOf : ByteArray := prog_1_method_15_code
def yX10_searchOf : MethodName := ⟨RX10, "searchOf", "(I)I"⟩
abbrev cX10_leftAt : ByteArray := prog_1_method_16_code
def yX10_leftAt : MethodName := ⟨RX10, "leftAt", "(II)I"⟩
abbrev cX10_count : ByteArray := prog_1_method_17_code
def yX10_count : MethodName := ⟨RX10, "count", "(I)I"⟩
abbrev cX10_boundOf : ByteArray := prog_1_method_18_code
def yX10_boundOf : MethodName := ⟨RX10, "boundOf", "(I)I"⟩
abbrev cX10_trialOf : ByteArray := prog_1_method_19_code
def yX10_trialOf : MethodName := ⟨RX10, "trialOf", "(II)I"⟩
abbrev cX10_spans : ByteArray := prog_1_method_20_code
def yX10_spans : MethodName := ⟨RX10, "spans", "()I"⟩
abbrev cX10_stuck : ByteArray := prog_1_method_21_code
def yX10_stuck : MethodName := ⟨RX10, "stuck", "(I)I"⟩
abbrev cX10_around : ByteArray := prog_1_method_22_code
def yX10_around : MethodName := ⟨RX10, "around", "(II)I"⟩
abbrev cX10_keep : ByteArray := prog_1_method_23_code
def yX10_keep : MethodName := ⟨RX10, "keep", "()I"⟩
abbrev cX10_restore : ByteArray := prog_1_method_24_code
def yX10_restore : MethodName := ⟨RX10, "restore", "()I"⟩
abbrev cX10_undo : ByteArray := prog_1_method_25_code
def yX10_undo : MethodName := ⟨RX10, "undo", "()I"⟩
abbrev cX10_type : ByteArray := prog_1_method_26_code
def yX10_type : MethodName := ⟨RX10, "type", "(I)I"⟩
abbrev cX10_clearText : ByteArray := prog_1_method_27_code
def yX10_clearText : MethodName := ⟨RX10, "clearText", "()I"⟩
abbrev cX10_fault : ByteArray := prog_1_method_28_code
def yX10_fault : MethodName := ⟨RX10, "fault", "(I)I"⟩
abbrev cX10_read : ByteArray := prog_1_method_29_code
def yX10_read : MethodName := ⟨RX10, "read", "()I"⟩
abbrev cX10_within : ByteArray := prog_1_method_30_code
def yX10_within : MethodName := ⟨RX10, "within", "(III)Z"⟩
abbrev cX10_oneIf : ByteArray := prog_1_method_31_code
def yX10_oneIf : MethodName := ⟨RX10, "oneIf", "(Z)I"⟩
abbrev cX10_closeGap : ByteArray := prog_1_method_32_code
def yX10_closeGap : MethodName := ⟨RX10, "closeGap", "([IIII)V"⟩
def RX11 : String := "PollMeshesModel"
def TX11 : u_T := fun k => match k with
  | 0 => ("PollMeshesModel", "z", "[I", true)
  | 1 => ("PollMeshesModel", "past", "[I", true)
  | 2 => ("PollMeshesModel", "kept", "[I", true)
  | 3 => ("PollMeshesModel", "pastMany", "I", false)
  | 4 => ("PollMeshesModel", "isKept", "Z", false)
  | 5 => ("PollMeshesModel", "text", "[C", true)
  | 6 => ("PollMeshesModel", "typed", "I", false)
  | 7 => ("PollMeshesModel", "row", "[I", true)
  | 8 => ("PollMeshesModel", "rowMany", "I", false)
  | 9 => ("PollMeshesModel", "bestAround", "[I", true)
  | 10 => ("PollMeshesModel", "read", "[I", true)
  | 11 => ("PollMeshesModel", "readMany", "I", false)
  | 12 => ("PollMeshesModel", "at", "I", false)
  | 13 => ("PollMeshesModel", "faultAt", "I", false)
  | _ => ("PollMeshesModel", "reason", "I", false)
def tyX11 : Nat → FieldType := fun k => match k with
  | 0 => .array .int
  | 1 => .array .int
  | 2 => .array .int
  | 3 => .int
  | 4 => .boolean
  | 5 => .array .char
  | 6 => .int
  | 7 => .array .int
  | 8 => .int
  | 9 => .array .int
  | 10 => .array .int
  | 11 => .int
  | 12 => .int
  | 13 => .int
  | _ => .int
abbrev wsX110 : List Cond := u_ws RX11 TX11 15
theorem nmX11 : ∀ a, a < 15 → ∀ b, b < 15 → a ≠ b → (TX11 a).2.1 ≠ (TX11 b).2.1 := by decide +kernel
theorem tyX11_ok : ∀ k, k < 15 → parseFieldDescriptor (TX11 k).2.2.1 = some (tyX11 k) := by decide +kernel
abbrev cX11_init : ByteArray := prog_13_method_1_code
def yX11_init : MethodName := ⟨RX11, "<init>", "()V"⟩
abbrev cX11_in : ByteArray := prog_13_method_2_code
def yX11_in : MethodName := ⟨RX11, "in", "(III)Z"⟩
abbrev cX11_begin : ByteArray := prog_13_method_3_code
def yX11_begin : MethodName := ⟨RX11, "begin", "(I)V"⟩
abbrev cX11_record : ByteArray := prog_13_method_4_code
def yX11_record : MethodName := ⟨RX11, "record", "()V"⟩
abbrev cX11_undo : ByteArray := prog_13_method_5_code
def yX11_undo : MethodName := ⟨RX11, "undo", "()I"⟩
abbrev cX11_keep : ByteArray := prog_13_method_6_code
def yX11_keep : MethodName := ⟨RX11, "keep", "()I"⟩
abbrev cX11_restore : ByteArray := prog_13_method_7_code
def yX11_restore : MethodName := ⟨RX11, "restore", "()I"⟩
abbrev cX11_areOfVariables : ByteArray := prog_13_method_8_code
def yX11_areOfVariables : MethodName := ⟨RX11, "areOfVariables", "(III)Z"⟩
abbrev cX11_arePlace : ByteArray := prog_13_method_9_code
def yX11_arePlace : MethodName := ⟨RX11, "arePlace", "(III)Z"⟩
abbrev cX11_power : ByteArray := prog_13_method_10_code
def yX11_power : MethodName := ⟨RX11, "power", "(II)J"⟩
abbrev cX11_valueAt : ByteArray := prog_13_method_11_code
def yX11_valueAt : MethodName := ⟨RX11, "valueAt", "(IIIZ)J"⟩
abbrev cX11_value : ByteArray := prog_13_method_12_code
def yX11_value : MethodName := ⟨RX11, "value", "(IIII)J"⟩
abbrev cX11_variables : ByteArray := prog_13_method_13_code
def yX11_variables : MethodName := ⟨RX11, "variables", "(I)I"⟩
abbrev cX11_putTerm : ByteArray := prog_13_method_14_code
def yX11_putTerm : MethodName := ⟨RX11, "putTerm", "(IIIII)V"⟩
abbrev cX11_term : ByteArray := prog_13_method_15_code
def yX11_term : MethodName := ⟨RX11, "term", "(IIII)I"⟩
abbrev cX11_termMany : ByteArray := prog_13_method_16_code
def yX11_termMany : MethodName := ⟨RX11, "termMany", "()I"⟩
abbrev cX11_oneMore : ByteArray := prog_13_method_17_code
def yX11_oneMore : MethodName := ⟨RX11, "oneMore", "(I)I"⟩
abbrev cX11_dropTerm : ByteArray := prog_13_method_18_code
def yX11_dropTerm : MethodName := ⟨RX11, "dropTerm", "(I)I"⟩
abbrev cX11_isVariable : ByteArray := prog_13_method_19_code
def yX11_isVariable : MethodName := ⟨RX11, "isVariable", "(I)Z"⟩
abbrev cX11_isAllowed : ByteArray := prog_13_method_20_code
def yX11_isAllowed : MethodName := ⟨RX11, "isAllowed", "(III)Z"⟩
abbrev cX11_isHereAllowed : ByteArray := prog_13_method_21_code
def yX11_isHereAllowed : MethodName := ⟨RX11, "isHereAllowed", "()Z"⟩
abbrev cX11_bound : ByteArray := prog_13_method_22_code
def yX11_bound : MethodName := ⟨RX11, "bound", "(III)I"⟩
abbrev cX11_step : ByteArray := prog_13_method_23_code
def yX11_step : MethodName := ⟨RX11, "step", "(II)I"⟩
abbrev cX11_directionMany : ByteArray := prog_13_method_24_code
def yX11_directionMany : MethodName := ⟨RX11, "directionMany", "()I"⟩
abbrev cX11_putDirection : ByteArray := prog_13_method_25_code
def yX11_putDirection : MethodName := ⟨RX11, "putDirection", "(IIII)V"⟩
abbrev cX11_direction : ByteArray := prog_13_method_26_code
def yX11_direction : MethodName := ⟨RX11, "direction", "(III)I"⟩
abbrev cX11_dropDirection : ByteArray := prog_13_method_27_code
def yX11_dropDirection : MethodName := ⟨RX11, "dropDirection", "(I)I"⟩
abbrev cX11_putPlace : ByteArray := prog_13_method_28_code
def yX11_putPlace : MethodName := ⟨RX11, "putPlace", "(III)V"⟩
abbrev cX11_clearSearch : ByteArray := prog_13_method_29_code
def yX11_clearSearch : MethodName := ⟨RX11, "clearSearch", "(I)V"⟩
abbrev cX11_start : ByteArray := prog_13_method_30_code
def yX11_start : MethodName := ⟨RX11, "start", "(IIII)I"⟩
abbrev cX11_order : ByteArray := prog_13_method_31_code
def yX11_order : MethodName := ⟨RX11, "order", "(II)I"⟩
abbrev cX11_trialAt : ByteArray := prog_13_method_32_code
def yX11_trialAt : MethodName := ⟨RX11, "trialAt", "(III)I"⟩
abbrev cX11_isTrialAllowed : ByteArray := prog_13_method_33_code
def yX11_isTrialAllowed : MethodName := ⟨RX11, "isTrialAllowed", "(II)Z"⟩
abbrev cX11_trialValue : ByteArray := prog_13_method_34_code
def yX11_trialValue : MethodName := ⟨RX11, "trialValue", "(IIZ)J"⟩
abbrev cX11_valueHere : ByteArray := prog_13_method_35_code
def yX11_valueHere : MethodName := ⟨RX11, "valueHere", "()J"⟩
abbrev cX11_isAhead : ByteArray := prog_13_method_36_code
def yX11_isAhead : MethodName := ⟨RX11, "isAhead", "(III)Z"⟩
abbrev cX11_layRow : ByteArray := prog_13_method_37_code
def yX11_layRow : MethodName := ⟨RX11, "layRow", "()V"⟩
abbrev cX11_leave : ByteArray := prog_13_method_38_code
def yX11_leave : MethodName := ⟨RX11, "leave", "()V"⟩
abbrev cX11_take : ByteArray := prog_13_method_39_code
def yX11_take : MethodName := ⟨RX11, "take", "(II)V"⟩
abbrev cX11_pollOnce : ByteArray := prog_13_method_40_code
def yX11_pollOnce : MethodName := ⟨RX11, "pollOnce", "()I"⟩
abbrev cX11_canPoll : ByteArray := prog_13_method_41_code
def yX11_canPoll : MethodName := ⟨RX11, "canPoll", "()Z"⟩
abbrev cX11_poll : ByteArray := prog_13_method_42_code
def yX11_poll : MethodName := ⟨RX11, "poll", "()I"⟩
abbrev cX11_run : ByteArray := prog_13_method_43_code
def yX11_run : MethodName := ⟨RX11, "run", "(I)I"⟩
abbrev cX11_termOf : ByteArray := prog_13_method_44_code
def yX11_termOf : MethodName := ⟨RX11, "termOf", "(II)I"⟩
abbrev cX11_directionOf : ByteArray := prog_13_method_45_code
def yX11_directionOf : MethodName := ⟨RX11, "directionOf", "(II)I"⟩
abbrev cX11_searchOf : ByteArray := prog_13_method_46_code
def yX11_searchOf : MethodName := ⟨RX11, "searchOf", "(I)I"⟩
abbrev cX11_leftAt : ByteArray := prog_13_method_47_code
def yX11_leftAt : MethodName := ⟨RX11, "leftAt", "(II)I"⟩
abbrev cX11_count : ByteArray := prog_13_method_48_code
def yX11_count : MethodName := ⟨RX11, "count", "(I)I"⟩
abbrev cX11_trialOf : ByteArray := prog_13_method_49_code
def yX11_trialOf : MethodName := ⟨RX11, "trialOf", "(II)I"⟩
abbrev cX11_isBarred : ByteArray := prog_13_method_50_code
def yX11_isBarred : MethodName := ⟨RX11, "isBarred", "(III)Z"⟩
abbrev cX11_isBarredBoth : ByteArray := prog_13_method_51_code
def yX11_isBarredBoth : MethodName := ⟨RX11, "isBarredBoth", "(III)Z"⟩
abbrev cX11_spanThree : ByteArray := prog_13_method_52_code
def yX11_spanThree : MethodName := ⟨RX11, "spanThree", "()Z"⟩
abbrev cX11_spanTwo : ByteArray := prog_13_method_53_code
def yX11_spanTwo : MethodName := ⟨RX11, "spanTwo", "()Z"⟩
abbrev cX11_spans : ByteArray := prog_13_method_54_code
def yX11_spans : MethodName := ⟨RX11, "spans", "()I"⟩
abbrev cX11_stuck : ByteArray := prog_13_method_55_code
def yX11_stuck : MethodName := ⟨RX11, "stuck", "(I)I"⟩
abbrev cX11_layAround : ByteArray := prog_13_method_56_code
def yX11_layAround : MethodName := ⟨RX11, "layAround", "(I)V"⟩
abbrev cX11_around : ByteArray := prog_13_method_57_code
def yX11_around : MethodName := ⟨RX11, "around", "(II)I"⟩
abbrev cX11_type : ByteArray := prog_13_method_58_code
def yX11_type : MethodName := ⟨RX11, "type", "(I)I"⟩
abbrev cX11_clearText : ByteArray := prog_13_method_59_code
def yX11_clearText : MethodName := ⟨RX11, "clearText", "()I"⟩
abbrev cX11_letter : ByteArray := prog_13_method_60_code
def yX11_letter : MethodName := ⟨RX11, "letter", "(I)I"⟩
abbrev cX11_fail : ByteArray := prog_13_method_61_code
def yX11_fail : MethodName := ⟨RX11, "fail", "(I)V"⟩
abbrev cX11_isDigit : ByteArray := prog_13_method_62_code
def yX11_isDigit : MethodName := ⟨RX11, "isDigit", "(I)Z"⟩
abbrev cX11_readNumber : ByteArray := prog_13_method_63_code
def yX11_readNumber : MethodName := ⟨RX11, "readNumber", "()I"⟩
abbrev cX11_readLetters : ByteArray := prog_13_method_64_code
def yX11_readLetters : MethodName := ⟨RX11, "readLetters", "(I)V"⟩
abbrev cX11_readTerm : ByteArray := prog_13_method_65_code
def yX11_readTerm : MethodName := ⟨RX11, "readTerm", "(Z)V"⟩
abbrev cX11_readText : ByteArray := prog_13_method_66_code
def yX11_readText : MethodName := ⟨RX11, "readText", "()V"⟩
abbrev cX11_fault : ByteArray := prog_13_method_67_code
def yX11_fault : MethodName := ⟨RX11, "fault", "(I)I"⟩
abbrev cX11_read : ByteArray := prog_13_method_68_code
def yX11_read : MethodName := ⟨RX11, "read", "()I"⟩
def RJ9 : String := "java/lang/Math"
def TJ9 : u_T := fun k => match k with
  | _ => ("", "", "", false)
def tyJ9 : Nat → FieldType := fun k => match k with
  | _ => .int
abbrev wsJ90 : List Cond := u_ws RJ9 TJ9 0
theorem nmJ9 : ∀ a, a < 0 → ∀ b, b < 0 → a ≠ b → (TJ9 a).2.1 ≠ (TJ9 b).2.1 := by decide +kernel
theorem tyJ9_ok : ∀ k, k < 0 → parseFieldDescriptor (TJ9 k).2.2.1 = some (tyJ9 k) := by decide +kernel
abbrev cJ9_max_7cf53 : ByteArray := prog_14_method_65_code
def yJ9_max_7cf53 : MethodName := ⟨RJ9, "max", "(II)I"⟩
abbrev cJ9_min_7cf53 : ByteArray := prog_14_method_69_code
def yJ9_min_7cf53 : MethodName := ⟨RJ9, "min", "(II)I"⟩
def RJ10 : String := "java/lang/System"
def TJ10 : u_T := fun k => match k with
  | _ => ("", "", "", false)
def tyJ10 : Nat → FieldType := fun k => match k with
  | _ => .int
abbrev wsJ100 : List Cond := u_ws RJ10 TJ10 0
theorem nmJ10 : ∀ a, a < 0 → ∀ b, b < 0 → a ≠ b → (TJ10 a).2.1 ≠ (TJ10 b).2.1 := by decide +kernel
theorem tyJ10_ok : ∀ k, k < 0 → parseFieldDescriptor (TJ10 k).2.2.1 = some (tyJ10 k) := by decide +kernel
def RL : String := "PollMeshesLaw"
abbrev cL_law : ByteArray := code
def yL_law : MethodName := ⟨RL, "law", "([I)Z"⟩
abbrev vwCl : List vw_C := [(RX0, TX0, 2), (RX1, TX1, 3), (RX2, TX2, 5), (RX3, TX3, 2), (RX4, TX4, 9), (RX5, TX5, 3), (RX6, TX6, 7), (RX7, TX7, 3), (RX8, TX8, 10), (RX9, TX9, 6), (RX10, TX10, 8), (RX11, TX11, 15)]
